/-! pieces of what is left for the five (laid by wip/gen/y10l.py) -/
set_option maxRecDepth 100000 in
set_option maxHeartbeats 4000000 in
theorem yq_da {n d : Nat} {h : rk_S} {o : Option Value × rk_S} (hG : yG h) (E : rk_ex n d rm_X5_dropAll 0 [(0, .ref 20)] [] h = some o) :
    (yG (rk_pt h 20 1 (.int (0 : Int32))) ∧ o = (some (.int (gi h 20 1)), rk_pt h 20 1 (.int (0 : Int32)))) := by
  obtain ⟨m1, hm2, E, hG⟩ := E_go (pc' := 11) (lv' := [(1, .int (gi h 20 1)), (0, .ref 20)]) (st' := [.int (gi h 20 1)]) (h' := rk_pt h 20 1 (.int (0 : Int32))) 7 rfl E hG
  have ho3 := E_reti rfl E
  exact ⟨hG, ho3⟩
set_option maxRecDepth 100000 in
set_option maxHeartbeats 4000000 in
theorem yq_st {n d : Nat} {h : rk_S} {o : Option Value × rk_S} {s v : Int32} (hG : yG h) (E : rk_ex n d rm_X7_store 0 [(0, .ref 1), (1, .int s), (2, .int v)] [] h = some o) :
    (s.toInt < 0 ∧ yG h ∧ o = (some (.int (0 : Int32)), h)) ∨
    (¬ (s.toInt < 0) ∧ 16 ≤ s.toInt ∧ yG h ∧ o = (some (.int (0 : Int32)), h)) ∨
    (¬ (s.toInt < 0) ∧ ¬ (16 ≤ s.toInt) ∧ yG (rk_pt h 19 s.toNatClampNeg (.int v)) ∧ o = (some (.int (gi h 19 s.toNatClampNeg)), rk_pt h 19 s.toNatClampNeg (.int v))) := by
  obtain ⟨m1, hm2, E, hG⟩ := E_go (pc' := 5) (lv' := [(0, .ref 1), (1, .int s), (2, .int v)]) (st' := [.int s, .ref 18]) (h' := h) 3 rfl E hG
  obtain ⟨m3, d4, o5, hm7, E6, F6⟩ := E_call (ar := ([.ref 18, .int s], [])) rfl rfl rfl rfl rfl rfl E
  replace E6 : rk_ex m3 d4 rm_X6_valueOf 0 [(0, .ref 18), (1, .int s)] [] h = some o5 := E6
  obtain ⟨m8, hm9, E6, hG⟩ := E_go (pc' := 1) (lv' := [(0, .ref 18), (1, .int s)]) (st' := [.int s]) (h' := h) 1 rfl E6 hG
  rcases E_if1 (tg := 19) rfl rfl E6 with ⟨hc, m10, hm11, E6⟩ | ⟨hc, m12, hm13, E6⟩
  ·
    have c14 : s.toInt < 0 := hc
    clear hc
    obtain ⟨m15, hm16, E6, hG⟩ := E_go (pc' := 20) (lv' := [(0, .ref 18), (1, .int s)]) (st' := [.int (0 : Int32)]) (h' := h) 1 rfl E6 hG
    have ho17 := E_reti rfl E6
    subst ho17
    have E : rk_ex m3 d rm_X7_store 8 [(0, .ref 1), (1, .int s), (2, .int v)] [.int (0 : Int32)] h = some o := F6
    obtain ⟨m18, hm19, E, hG⟩ := E_go (pc' := 15) (lv' := [(3, .int (0 : Int32)), (0, .ref 1), (1, .int s), (2, .int v)]) (st' := [.int v, .int s, .ref 18]) (h' := h) 5 rfl E hG
    obtain ⟨m20, d21, o22, hm24, E23, F23⟩ := E_call (ar := ([.ref 18, .int s, .int v], [])) rfl rfl rfl rfl rfl rfl E
    replace E23 : rk_ex m20 d21 rm_X6_setValue 0 [(0, .ref 18), (1, .int s), (2, .int v)] [] h = some o22 := E23
    obtain ⟨m25, hm26, E23, hG⟩ := E_go (pc' := 1) (lv' := [(0, .ref 18), (1, .int s), (2, .int v)]) (st' := [.int s]) (h' := h) 1 rfl E23 hG
    rcases E_if1 (tg := 17) rfl rfl E23 with ⟨hc, m27, hm28, E23⟩ | ⟨hc, m29, hm30, E23⟩
    ·
      clear hc
      have ho31 := E_retv rfl E23
      subst ho31
      have E : rk_ex m20 d rm_X7_store 18 [(3, .int (0 : Int32)), (0, .ref 1), (1, .int s), (2, .int v)] [] h = some o := F23
      obtain ⟨m32, hm33, E, hG⟩ := E_go (pc' := 19) (lv' := [(3, .int (0 : Int32)), (0, .ref 1), (1, .int s), (2, .int v)]) (st' := [.int (0 : Int32)]) (h' := h) 1 rfl E hG
      have ho34 := E_reti rfl E
      exact Or.inl ⟨c14, hG, ho34⟩
    · exact absurd (show ¬ (s.toInt < 0) from hc) (by omega)
  ·
    have c35 : ¬ (s.toInt < 0) := hc
    clear hc
    obtain ⟨m36, hm37, E6, hG⟩ := E_go (pc' := 7) (lv' := [(0, .ref 18), (1, .int s)]) (st' := [.int (16 : Int32), .int s]) (h' := h) 2 rfl E6 hG
    rcases E_if2 (tg := 19) rfl rfl E6 with ⟨hc, m38, hm39, E6⟩ | ⟨hc, m40, hm41, E6⟩
    ·
      have c42 : 16 ≤ s.toInt := hc
      clear hc
      obtain ⟨m43, hm44, E6, hG⟩ := E_go (pc' := 20) (lv' := [(0, .ref 18), (1, .int s)]) (st' := [.int (0 : Int32)]) (h' := h) 1 rfl E6 hG
      have ho45 := E_reti rfl E6
      subst ho45
      have E : rk_ex m3 d rm_X7_store 8 [(0, .ref 1), (1, .int s), (2, .int v)] [.int (0 : Int32)] h = some o := F6
      obtain ⟨m46, hm47, E, hG⟩ := E_go (pc' := 15) (lv' := [(3, .int (0 : Int32)), (0, .ref 1), (1, .int s), (2, .int v)]) (st' := [.int v, .int s, .ref 18]) (h' := h) 5 rfl E hG
      obtain ⟨m48, d49, o50, hm52, E51, F51⟩ := E_call (ar := ([.ref 18, .int s, .int v], [])) rfl rfl rfl rfl rfl rfl E
      replace E51 : rk_ex m48 d49 rm_X6_setValue 0 [(0, .ref 18), (1, .int s), (2, .int v)] [] h = some o50 := E51
      obtain ⟨m53, hm54, E51, hG⟩ := E_go (pc' := 1) (lv' := [(0, .ref 18), (1, .int s), (2, .int v)]) (st' := [.int s]) (h' := h) 1 rfl E51 hG
      rcases E_if1 (tg := 17) rfl rfl E51 with ⟨hc, m55, hm56, E51⟩ | ⟨hc, m57, hm58, E51⟩
      · exact absurd (show s.toInt < 0 from hc) (by omega)
      ·
        clear hc
        obtain ⟨m59, hm60, E51, hG⟩ := E_go (pc' := 7) (lv' := [(0, .ref 18), (1, .int s), (2, .int v)]) (st' := [.int (16 : Int32), .int s]) (h' := h) 2 rfl E51 hG
        rcases E_if2 (tg := 17) rfl rfl E51 with ⟨hc, m61, hm62, E51⟩ | ⟨hc, m63, hm64, E51⟩
        ·
          clear hc
          have ho65 := E_retv rfl E51
          subst ho65
          have E : rk_ex m48 d rm_X7_store 18 [(3, .int (0 : Int32)), (0, .ref 1), (1, .int s), (2, .int v)] [] h = some o := F51
          obtain ⟨m66, hm67, E, hG⟩ := E_go (pc' := 19) (lv' := [(3, .int (0 : Int32)), (0, .ref 1), (1, .int s), (2, .int v)]) (st' := [.int (0 : Int32)]) (h' := h) 1 rfl E hG
          have ho68 := E_reti rfl E
          exact Or.inr (Or.inl ⟨c35, c42, hG, ho68⟩)
        · exact absurd (show ¬ (16 ≤ s.toInt) from hc) (by omega)
    ·
      have c69 : ¬ (16 ≤ s.toInt) := hc
      clear hc
      obtain ⟨m70, hm71, E6, hG⟩ := E_go (pc' := 20) (lv' := [(0, .ref 18), (1, .int s)]) (st' := [.int (gi h 19 s.toNatClampNeg)]) (h' := h) 5 rfl E6 hG
      have ho72 := E_reti rfl E6
      subst ho72
      have E : rk_ex m3 d rm_X7_store 8 [(0, .ref 1), (1, .int s), (2, .int v)] [.int (gi h 19 s.toNatClampNeg)] h = some o := F6
      obtain ⟨m73, hm74, E, hG⟩ := E_go (pc' := 15) (lv' := [(3, .int (gi h 19 s.toNatClampNeg)), (0, .ref 1), (1, .int s), (2, .int v)]) (st' := [.int v, .int s, .ref 18]) (h' := h) 5 rfl E hG
      obtain ⟨m75, d76, o77, hm79, E78, F78⟩ := E_call (ar := ([.ref 18, .int s, .int v], [])) rfl rfl rfl rfl rfl rfl E
      replace E78 : rk_ex m75 d76 rm_X6_setValue 0 [(0, .ref 18), (1, .int s), (2, .int v)] [] h = some o77 := E78
      obtain ⟨m80, hm81, E78, hG⟩ := E_go (pc' := 1) (lv' := [(0, .ref 18), (1, .int s), (2, .int v)]) (st' := [.int s]) (h' := h) 1 rfl E78 hG
      rcases E_if1 (tg := 17) rfl rfl E78 with ⟨hc, m82, hm83, E78⟩ | ⟨hc, m84, hm85, E78⟩
      · exact absurd (show s.toInt < 0 from hc) (by omega)
      ·
        clear hc
        obtain ⟨m86, hm87, E78, hG⟩ := E_go (pc' := 7) (lv' := [(0, .ref 18), (1, .int s), (2, .int v)]) (st' := [.int (16 : Int32), .int s]) (h' := h) 2 rfl E78 hG
        rcases E_if2 (tg := 17) rfl rfl E78 with ⟨hc, m88, hm89, E78⟩ | ⟨hc, m90, hm91, E78⟩
        · exact absurd (show 16 ≤ s.toInt from hc) (by omega)
        ·
          clear hc
          obtain ⟨m92, hm93, E78, hG⟩ := E_go (pc' := 17) (lv' := [(0, .ref 18), (1, .int s), (2, .int v)]) (st' := []) (h' := rk_pt h 19 s.toNatClampNeg (.int v)) 5 rfl E78 hG
          have ho94 := E_retv rfl E78
          subst ho94
          have E : rk_ex m75 d rm_X7_store 18 [(3, .int (gi h 19 s.toNatClampNeg)), (0, .ref 1), (1, .int s), (2, .int v)] [] (rk_pt h 19 s.toNatClampNeg (.int v)) = some o := F78
          obtain ⟨m95, hm96, E, hG⟩ := E_go (pc' := 19) (lv' := [(3, .int (gi h 19 s.toNatClampNeg)), (0, .ref 1), (1, .int s), (2, .int v)]) (st' := [.int (gi h 19 s.toNatClampNeg)]) (h' := rk_pt h 19 s.toNatClampNeg (.int v)) 1 rfl E hG
          have ho97 := E_reti rfl E
          exact Or.inr (Or.inr ⟨c35, c69, hG, ho97⟩)
set_option maxRecDepth 100000 in
set_option maxHeartbeats 4000000 in
theorem yq_he {n d : Nat} {h : rk_S} {o : Option Value × rk_S} {s : Int32} (hG : yG h) (E : rk_ex n d rm_X7_held 0 [(0, .ref 1), (1, .int s)] [] h = some o) :
    (s.toInt < 0 ∧ yG h ∧ o = (some (.int (0 : Int32)), h)) ∨
    (¬ (s.toInt < 0) ∧ 16 ≤ s.toInt ∧ yG h ∧ o = (some (.int (0 : Int32)), h)) ∨
    (¬ (s.toInt < 0) ∧ ¬ (16 ≤ s.toInt) ∧ yG h ∧ o = (some (.int (gi h 19 s.toNatClampNeg)), h)) := by
  obtain ⟨m1, hm2, E, hG⟩ := E_go (pc' := 5) (lv' := [(0, .ref 1), (1, .int s)]) (st' := [.int s, .ref 18]) (h' := h) 3 rfl E hG
  obtain ⟨m3, d4, o5, hm7, E6, F6⟩ := E_call (ar := ([.ref 18, .int s], [])) rfl rfl rfl rfl rfl rfl E
  replace E6 : rk_ex m3 d4 rm_X6_valueOf 0 [(0, .ref 18), (1, .int s)] [] h = some o5 := E6
  obtain ⟨m8, hm9, E6, hG⟩ := E_go (pc' := 1) (lv' := [(0, .ref 18), (1, .int s)]) (st' := [.int s]) (h' := h) 1 rfl E6 hG
  rcases E_if1 (tg := 19) rfl rfl E6 with ⟨hc, m10, hm11, E6⟩ | ⟨hc, m12, hm13, E6⟩
  ·
    have c14 : s.toInt < 0 := hc
    clear hc
    obtain ⟨m15, hm16, E6, hG⟩ := E_go (pc' := 20) (lv' := [(0, .ref 18), (1, .int s)]) (st' := [.int (0 : Int32)]) (h' := h) 1 rfl E6 hG
    have ho17 := E_reti rfl E6
    subst ho17
    have E : rk_ex m3 d rm_X7_held 8 [(0, .ref 1), (1, .int s)] [.int (0 : Int32)] h = some o := F6
    have ho18 := E_reti rfl E
    exact Or.inl ⟨c14, hG, ho18⟩
  ·
    have c19 : ¬ (s.toInt < 0) := hc
    clear hc
    obtain ⟨m20, hm21, E6, hG⟩ := E_go (pc' := 7) (lv' := [(0, .ref 18), (1, .int s)]) (st' := [.int (16 : Int32), .int s]) (h' := h) 2 rfl E6 hG
    rcases E_if2 (tg := 19) rfl rfl E6 with ⟨hc, m22, hm23, E6⟩ | ⟨hc, m24, hm25, E6⟩
    ·
      have c26 : 16 ≤ s.toInt := hc
      clear hc
      obtain ⟨m27, hm28, E6, hG⟩ := E_go (pc' := 20) (lv' := [(0, .ref 18), (1, .int s)]) (st' := [.int (0 : Int32)]) (h' := h) 1 rfl E6 hG
      have ho29 := E_reti rfl E6
      subst ho29
      have E : rk_ex m3 d rm_X7_held 8 [(0, .ref 1), (1, .int s)] [.int (0 : Int32)] h = some o := F6
      have ho30 := E_reti rfl E
      exact Or.inr (Or.inl ⟨c19, c26, hG, ho30⟩)
    ·
      have c31 : ¬ (16 ≤ s.toInt) := hc
      clear hc
      obtain ⟨m32, hm33, E6, hG⟩ := E_go (pc' := 20) (lv' := [(0, .ref 18), (1, .int s)]) (st' := [.int (gi h 19 s.toNatClampNeg)]) (h' := h) 5 rfl E6 hG
      have ho34 := E_reti rfl E6
      subst ho34
      have E : rk_ex m3 d rm_X7_held 8 [(0, .ref 1), (1, .int s)] [.int (gi h 19 s.toNatClampNeg)] h = some o := F6
      have ho35 := E_reti rfl E
      exact Or.inr (Or.inr ⟨c19, c31, hG, ho35⟩)
set_option maxRecDepth 100000 in
set_option maxHeartbeats 4000000 in
theorem yq_lo {n d : Nat} {h : rk_S} {o : Option Value × rk_S} {v : Int32} (hG : yG h) (E : rk_ex n d rm_X7_lot 0 [(0, .ref 1), (1, .int v)] [] h = some o) :
    (yG (rk_pt h 18 1 (.int v)) ∧ o = (some (.int (gi h 18 1)), rk_pt h 18 1 (.int v))) := by
  obtain ⟨m1, hm2, E, hG⟩ := E_go (pc' := 17) (lv' := [(2, .int (gi h 18 1)), (0, .ref 1), (1, .int v)]) (st' := [.int (gi h 18 1)]) (h' := rk_pt h 18 1 (.int v)) 9 rfl E hG
  have ho3 := E_reti rfl E
  exact ⟨hG, ho3⟩
set_option maxRecDepth 100000 in
set_option maxHeartbeats 4000000 in
theorem yq_an {n d : Nat} {h : rk_S} {o : Option Value × rk_S} (hG : yG h) (E : rk_ex n d rm_X7_answer 0 [(0, .ref 1)] [] h = some o) :
    (yG h ∧ o = (some (.int (gi h 118 11)), h)) := by
  obtain ⟨m1, hm2, E, hG⟩ := E_go (pc' := 7) (lv' := [(0, .ref 1)]) (st' := [.int (gi h 118 11)]) (h' := h) 3 rfl E hG
  have ho3 := E_reti rfl E
  exact ⟨hG, ho3⟩
set_option maxRecDepth 100000 in
set_option maxHeartbeats 4000000 in
theorem yq_rm {n d : Nat} {h : rk_S} {o : Option Value × rk_S} {a b : Int32} (hG : yG h) (E : rk_ex n d rm_X7_room 0 [(0, .ref 1), (1, .int a), (2, .int b)] [] h = some o) :
    (a.toInt < 0 ∧ yG h ∧ o = (some (.int ((-2) : Int32)), h)) ∨
    (¬ (a.toInt < 0) ∧ 32 < a.toInt ∧ yG h ∧ o = (some (.int ((-2) : Int32)), h)) ∨
    (¬ (a.toInt < 0) ∧ ¬ (32 < a.toInt) ∧ b.toInt < 0 ∧ yG h ∧ o = (some (.int ((-2) : Int32)), h)) ∨
    (¬ (a.toInt < 0) ∧ ¬ (32 < a.toInt) ∧ ¬ (b.toInt < 0) ∧ b.toInt ≤ 2 ∧ ∃ m, m < n + 1 ∧ yG h ∧ rk_ex m d rm_X7_room 25 [(0, .ref 1), (1, .int a), (2, .int b)] [.int b, .int a, .ref 20] h = some o) ∨
    (¬ (a.toInt < 0) ∧ ¬ (32 < a.toInt) ∧ ¬ (b.toInt < 0) ∧ ¬ (b.toInt ≤ 2) ∧ yG h ∧ o = (some (.int ((-2) : Int32)), h)) := by
  obtain ⟨m1, hm2, E, hG⟩ := E_go (pc' := 1) (lv' := [(0, .ref 1), (1, .int a), (2, .int b)]) (st' := [.int a]) (h' := h) 1 rfl E hG
  obtain ⟨m3, d4, o5, hm7, E6, F6⟩ := E_call (ar := ([.int a], [])) rfl rfl rfl rfl rfl rfl E
  replace E6 : rk_ex m3 d4 rm_X7_isRoom 0 [(0, .int a)] [] h = some o5 := E6
  obtain ⟨m8, hm9, E6, hG⟩ := E_go (pc' := 1) (lv' := [(0, .int a)]) (st' := [.int a]) (h' := h) 1 rfl E6 hG
  rcases E_if1 (tg := 14) rfl rfl E6 with ⟨hc, m10, hm11, E6⟩ | ⟨hc, m12, hm13, E6⟩
  ·
    have c14 : a.toInt < 0 := hc
    clear hc
    obtain ⟨m15, hm16, E6, hG⟩ := E_go (pc' := 15) (lv' := [(0, .int a)]) (st' := [.int (0 : Int32)]) (h' := h) 1 rfl E6 hG
    have ho17 := E_reti rfl E6
    subst ho17
    have E : rk_ex m3 d rm_X7_room 4 [(0, .ref 1), (1, .int a), (2, .int b)] [.int (0 : Int32)] h = some o := F6
    rcases E_if1 (tg := 16) rfl rfl E with ⟨hc, m18, hm19, E⟩ | ⟨hc, m20, hm21, E⟩
    ·
      clear hc
      obtain ⟨m22, hm23, E, hG⟩ := E_go (pc' := 18) (lv' := [(0, .ref 1), (1, .int a), (2, .int b)]) (st' := [.int ((-2) : Int32)]) (h' := h) 1 rfl E hG
      have ho24 := E_reti rfl E
      exact Or.inl ⟨c14, hG, ho24⟩
    · exact absurd (show ¬ ((0 : Int) = 0) from hc) (by decide)
  ·
    have c25 : ¬ (a.toInt < 0) := hc
    clear hc
    obtain ⟨m26, hm27, E6, hG⟩ := E_go (pc' := 7) (lv' := [(0, .int a)]) (st' := [.int (32 : Int32), .int a]) (h' := h) 2 rfl E6 hG
    rcases E_if2 (tg := 14) rfl rfl E6 with ⟨hc, m28, hm29, E6⟩ | ⟨hc, m30, hm31, E6⟩
    ·
      have c32 : 32 < a.toInt := hc
      clear hc
      obtain ⟨m33, hm34, E6, hG⟩ := E_go (pc' := 15) (lv' := [(0, .int a)]) (st' := [.int (0 : Int32)]) (h' := h) 1 rfl E6 hG
      have ho35 := E_reti rfl E6
      subst ho35
      have E : rk_ex m3 d rm_X7_room 4 [(0, .ref 1), (1, .int a), (2, .int b)] [.int (0 : Int32)] h = some o := F6
      rcases E_if1 (tg := 16) rfl rfl E with ⟨hc, m36, hm37, E⟩ | ⟨hc, m38, hm39, E⟩
      ·
        clear hc
        obtain ⟨m40, hm41, E, hG⟩ := E_go (pc' := 18) (lv' := [(0, .ref 1), (1, .int a), (2, .int b)]) (st' := [.int ((-2) : Int32)]) (h' := h) 1 rfl E hG
        have ho42 := E_reti rfl E
        exact Or.inr (Or.inl ⟨c25, c32, hG, ho42⟩)
      · exact absurd (show ¬ ((0 : Int) = 0) from hc) (by decide)
    ·
      have c43 : ¬ (32 < a.toInt) := hc
      clear hc
      obtain ⟨m44, hm45, E6, hG⟩ := E_go (pc' := 15) (lv' := [(0, .int a)]) (st' := [.int (1 : Int32)]) (h' := h) 2 rfl E6 hG
      have ho46 := E_reti rfl E6
      subst ho46
      have E : rk_ex m3 d rm_X7_room 4 [(0, .ref 1), (1, .int a), (2, .int b)] [.int (1 : Int32)] h = some o := F6
      rcases E_if1 (tg := 16) rfl rfl E with ⟨hc, m47, hm48, E⟩ | ⟨hc, m49, hm50, E⟩
      · exact absurd (show (1 : Int) = 0 from hc) (by decide)
      ·
        clear hc
        obtain ⟨m51, hm52, E, hG⟩ := E_go (pc' := 8) (lv' := [(0, .ref 1), (1, .int a), (2, .int b)]) (st' := [.int b]) (h' := h) 1 rfl E hG
        rcases E_if1 (tg := 16) rfl rfl E with ⟨hc, m53, hm54, E⟩ | ⟨hc, m55, hm56, E⟩
        ·
          have c57 : b.toInt < 0 := hc
          clear hc
          obtain ⟨m58, hm59, E, hG⟩ := E_go (pc' := 18) (lv' := [(0, .ref 1), (1, .int a), (2, .int b)]) (st' := [.int ((-2) : Int32)]) (h' := h) 1 rfl E hG
          have ho60 := E_reti rfl E
          exact Or.inr (Or.inr (Or.inl ⟨c25, c43, c57, hG, ho60⟩))
        ·
          have c61 : ¬ (b.toInt < 0) := hc
          clear hc
          obtain ⟨m62, hm63, E, hG⟩ := E_go (pc' := 13) (lv' := [(0, .ref 1), (1, .int a), (2, .int b)]) (st' := [.int (2 : Int32), .int b]) (h' := h) 2 rfl E hG
          rcases E_if2 (tg := 19) rfl rfl E with ⟨hc, m64, hm65, E⟩ | ⟨hc, m66, hm67, E⟩
          ·
            have c68 : b.toInt ≤ 2 := hc
            clear hc
            obtain ⟨m69, hm70, E, hG⟩ := E_go (pc' := 25) (lv' := [(0, .ref 1), (1, .int a), (2, .int b)]) (st' := [.int b, .int a, .ref 20]) (h' := h) 4 rfl E hG
            exact Or.inr (Or.inr (Or.inr (Or.inl ⟨c25, c43, c61, c68, _, (by omega), hG, E⟩)))
          ·
            have c71 : ¬ (b.toInt ≤ 2) := hc
            clear hc
            obtain ⟨m72, hm73, E, hG⟩ := E_go (pc' := 18) (lv' := [(0, .ref 1), (1, .int a), (2, .int b)]) (st' := [.int ((-2) : Int32)]) (h' := h) 1 rfl E hG
            have ho74 := E_reti rfl E
            exact Or.inr (Or.inr (Or.inr (Or.inr ⟨c25, c43, c61, c71, hG, ho74⟩)))
set_option maxRecDepth 100000 in
set_option maxHeartbeats 4000000 in
theorem yq_rm1 {n d : Nat} {h : rk_S} {o : Option Value × rk_S} {a b y : Int32} (hG : yG h) (E : rk_ex n d rm_X7_room 28 [(0, .ref 1), (1, .int a), (2, .int b)] [.int y] h = some o) :
    (yG h ∧ o = (some (.int y), h)) := by
  have ho1 := E_reti rfl E
  exact ⟨hG, ho1⟩
set_option maxRecDepth 100000 in
set_option maxHeartbeats 4000000 in
theorem yq_fo {n d : Nat} {h : rk_S} {o : Option Value × rk_S} (hG : yG h) (E : rk_ex n d rm_X7_forget 0 [(0, .ref 1)] [] h = some o) :
    (yG (rk_pt h 20 1 (.int (0 : Int32))) ∧ o = (some (.int (gi h 20 1)), rk_pt h 20 1 (.int (0 : Int32)))) := by
  obtain ⟨m1, hm2, E, hG⟩ := E_go (pc' := 4) (lv' := [(0, .ref 1)]) (st' := [.ref 20]) (h' := h) 2 rfl E hG
  obtain ⟨m3, d4, o5, hm7, E6, F6⟩ := E_call (ar := ([.ref 20], [])) rfl rfl rfl rfl rfl rfl E
  replace E6 : rk_ex m3 d4 rm_X5_dropAll 0 [(0, .ref 20)] [] h = some o5 := E6
  obtain ⟨m8, hm9, E6, hG⟩ := E_go (pc' := 11) (lv' := [(1, .int (gi h 20 1)), (0, .ref 20)]) (st' := [.int (gi h 20 1)]) (h' := rk_pt h 20 1 (.int (0 : Int32))) 7 rfl E6 hG
  have ho10 := E_reti rfl E6
  subst ho10
  have E : rk_ex m3 d rm_X7_forget 7 [(0, .ref 1)] [.int (gi h 20 1)] (rk_pt h 20 1 (.int (0 : Int32))) = some o := F6
  have ho11 := E_reti rfl E
  exact ⟨hG, ho11⟩
set_option maxRecDepth 100000 in
set_option maxHeartbeats 4000000 in
theorem yq_mst {n d : Nat} {h : rk_S} {o : Option Value × rk_S} {s v : Int32} (hG : yG h) (E : rk_ex n d rm_X8_store 0 [(0, .ref 316), (1, .int s), (2, .int v)] [] h = some o) :
    (s.toInt < 0 ∧ yG h ∧ o = (some (.int (0 : Int32)), h)) ∨
    (¬ (s.toInt < 0) ∧ 15 < s.toInt ∧ yG h ∧ o = (some (.int (0 : Int32)), h)) ∨
    (¬ (s.toInt < 0) ∧ ¬ (15 < s.toInt) ∧ yG (rk_pt h 320 s.toNatClampNeg (.int v)) ∧ o = (some (.int (gi h 320 s.toNatClampNeg)), rk_pt h 320 s.toNatClampNeg (.int v))) := by
  obtain ⟨m1, hm2, E, hG⟩ := E_go (pc' := 4) (lv' := [(0, .ref 316), (1, .int s), (2, .int v)]) (st' := [.int (15 : Int32), .int (0 : Int32), .int s]) (h' := h) 3 rfl E hG
  obtain ⟨m3, d4, o5, hm7, E6, F6⟩ := E_call (ar := ([.int s, .int (0 : Int32), .int (15 : Int32)], [])) rfl rfl rfl rfl rfl rfl E
  replace E6 : rk_ex m3 d4 rm_X8_in 0 [(0, .int s), (1, .int (0 : Int32)), (2, .int (15 : Int32))] [] h = some o5 := E6
  obtain ⟨m8, hm9, E6, hG⟩ := E_go (pc' := 2) (lv' := [(0, .int s), (1, .int (0 : Int32)), (2, .int (15 : Int32))]) (st' := [.int (0 : Int32), .int s]) (h' := h) 2 rfl E6 hG
  rcases E_if2 (tg := 14) rfl rfl E6 with ⟨hc, m10, hm11, E6⟩ | ⟨hc, m12, hm13, E6⟩
  ·
    have c14 : s.toInt < 0 := hc
    clear hc
    obtain ⟨m15, hm16, E6, hG⟩ := E_go (pc' := 15) (lv' := [(0, .int s), (1, .int (0 : Int32)), (2, .int (15 : Int32))]) (st' := [.int (0 : Int32)]) (h' := h) 1 rfl E6 hG
    have ho17 := E_reti rfl E6
    subst ho17
    have E : rk_ex m3 d rm_X8_store 7 [(0, .ref 316), (1, .int s), (2, .int v)] [.int (0 : Int32)] h = some o := F6
    rcases E_if1 (tg := 12) rfl rfl E with ⟨hc, m18, hm19, E⟩ | ⟨hc, m20, hm21, E⟩
    · exact absurd (show ¬ (0 : Int) = 0 from hc) (by decide)
    ·
      clear hc
      obtain ⟨m22, hm23, E, hG⟩ := E_go (pc' := 11) (lv' := [(0, .ref 316), (1, .int s), (2, .int v)]) (st' := [.int (0 : Int32)]) (h' := h) 1 rfl E hG
      have ho24 := E_reti rfl E
      exact Or.inl ⟨c14, hG, ho24⟩
  ·
    have c25 : ¬ (s.toInt < 0) := hc
    clear hc
    obtain ⟨m26, hm27, E6, hG⟩ := E_go (pc' := 7) (lv' := [(0, .int s), (1, .int (0 : Int32)), (2, .int (15 : Int32))]) (st' := [.int (15 : Int32), .int s]) (h' := h) 2 rfl E6 hG
    rcases E_if2 (tg := 14) rfl rfl E6 with ⟨hc, m28, hm29, E6⟩ | ⟨hc, m30, hm31, E6⟩
    ·
      have c32 : 15 < s.toInt := hc
      clear hc
      obtain ⟨m33, hm34, E6, hG⟩ := E_go (pc' := 15) (lv' := [(0, .int s), (1, .int (0 : Int32)), (2, .int (15 : Int32))]) (st' := [.int (0 : Int32)]) (h' := h) 1 rfl E6 hG
      have ho35 := E_reti rfl E6
      subst ho35
      have E : rk_ex m3 d rm_X8_store 7 [(0, .ref 316), (1, .int s), (2, .int v)] [.int (0 : Int32)] h = some o := F6
      rcases E_if1 (tg := 12) rfl rfl E with ⟨hc, m36, hm37, E⟩ | ⟨hc, m38, hm39, E⟩
      · exact absurd (show ¬ (0 : Int) = 0 from hc) (by decide)
      ·
        clear hc
        obtain ⟨m40, hm41, E, hG⟩ := E_go (pc' := 11) (lv' := [(0, .ref 316), (1, .int s), (2, .int v)]) (st' := [.int (0 : Int32)]) (h' := h) 1 rfl E hG
        have ho42 := E_reti rfl E
        exact Or.inr (Or.inl ⟨c25, c32, hG, ho42⟩)
    ·
      have c43 : ¬ (15 < s.toInt) := hc
      clear hc
      obtain ⟨m44, hm45, E6, hG⟩ := E_go (pc' := 15) (lv' := [(0, .int s), (1, .int (0 : Int32)), (2, .int (15 : Int32))]) (st' := [.int (1 : Int32)]) (h' := h) 2 rfl E6 hG
      have ho46 := E_reti rfl E6
      subst ho46
      have E : rk_ex m3 d rm_X8_store 7 [(0, .ref 316), (1, .int s), (2, .int v)] [.int (1 : Int32)] h = some o := F6
      rcases E_if1 (tg := 12) rfl rfl E with ⟨hc, m47, hm48, E⟩ | ⟨hc, m49, hm50, E⟩
      ·
        clear hc
        obtain ⟨m51, hm52, E, hG⟩ := E_go (pc' := 27) (lv' := [(3, .int (gi h 320 s.toNatClampNeg)), (0, .ref 316), (1, .int s), (2, .int v)]) (st' := [.int (gi h 320 s.toNatClampNeg)]) (h' := rk_pt h 320 s.toNatClampNeg (.int v)) 11 rfl E hG
        have ho53 := E_reti rfl E
        exact Or.inr (Or.inr ⟨c25, c43, hG, ho53⟩)
      · exact absurd (show ¬ (¬ (1 : Int) = 0) from hc) (by decide)
set_option maxRecDepth 100000 in
set_option maxHeartbeats 4000000 in
theorem yq_mhe {n d : Nat} {h : rk_S} {o : Option Value × rk_S} {s : Int32} (hG : yG h) (E : rk_ex n d rm_X8_held 0 [(0, .ref 316), (1, .int s)] [] h = some o) :
    (s.toInt < 0 ∧ yG h ∧ o = (some (.int (0 : Int32)), h)) ∨
    (¬ (s.toInt < 0) ∧ 15 < s.toInt ∧ yG h ∧ o = (some (.int (0 : Int32)), h)) ∨
    (¬ (s.toInt < 0) ∧ ¬ (15 < s.toInt) ∧ yG h ∧ o = (some (.int (gi h 320 s.toNatClampNeg)), h)) := by
  obtain ⟨m1, hm2, E, hG⟩ := E_go (pc' := 4) (lv' := [(0, .ref 316), (1, .int s)]) (st' := [.int (15 : Int32), .int (0 : Int32), .int s]) (h' := h) 3 rfl E hG
  obtain ⟨m3, d4, o5, hm7, E6, F6⟩ := E_call (ar := ([.int s, .int (0 : Int32), .int (15 : Int32)], [])) rfl rfl rfl rfl rfl rfl E
  replace E6 : rk_ex m3 d4 rm_X8_in 0 [(0, .int s), (1, .int (0 : Int32)), (2, .int (15 : Int32))] [] h = some o5 := E6
  obtain ⟨m8, hm9, E6, hG⟩ := E_go (pc' := 2) (lv' := [(0, .int s), (1, .int (0 : Int32)), (2, .int (15 : Int32))]) (st' := [.int (0 : Int32), .int s]) (h' := h) 2 rfl E6 hG
  rcases E_if2 (tg := 14) rfl rfl E6 with ⟨hc, m10, hm11, E6⟩ | ⟨hc, m12, hm13, E6⟩
  ·
    have c14 : s.toInt < 0 := hc
    clear hc
    obtain ⟨m15, hm16, E6, hG⟩ := E_go (pc' := 15) (lv' := [(0, .int s), (1, .int (0 : Int32)), (2, .int (15 : Int32))]) (st' := [.int (0 : Int32)]) (h' := h) 1 rfl E6 hG
    have ho17 := E_reti rfl E6
    subst ho17
    have E : rk_ex m3 d rm_X8_held 7 [(0, .ref 316), (1, .int s)] [.int (0 : Int32)] h = some o := F6
    rcases E_if1 (tg := 19) rfl rfl E with ⟨hc, m18, hm19, E⟩ | ⟨hc, m20, hm21, E⟩
    ·
      clear hc
      obtain ⟨m22, hm23, E, hG⟩ := E_go (pc' := 20) (lv' := [(0, .ref 316), (1, .int s)]) (st' := [.int (0 : Int32)]) (h' := h) 1 rfl E hG
      have ho24 := E_reti rfl E
      exact Or.inl ⟨c14, hG, ho24⟩
    · exact absurd (show ¬ ((0 : Int) = 0) from hc) (by decide)
  ·
    have c25 : ¬ (s.toInt < 0) := hc
    clear hc
    obtain ⟨m26, hm27, E6, hG⟩ := E_go (pc' := 7) (lv' := [(0, .int s), (1, .int (0 : Int32)), (2, .int (15 : Int32))]) (st' := [.int (15 : Int32), .int s]) (h' := h) 2 rfl E6 hG
    rcases E_if2 (tg := 14) rfl rfl E6 with ⟨hc, m28, hm29, E6⟩ | ⟨hc, m30, hm31, E6⟩
    ·
      have c32 : 15 < s.toInt := hc
      clear hc
      obtain ⟨m33, hm34, E6, hG⟩ := E_go (pc' := 15) (lv' := [(0, .int s), (1, .int (0 : Int32)), (2, .int (15 : Int32))]) (st' := [.int (0 : Int32)]) (h' := h) 1 rfl E6 hG
      have ho35 := E_reti rfl E6
      subst ho35
      have E : rk_ex m3 d rm_X8_held 7 [(0, .ref 316), (1, .int s)] [.int (0 : Int32)] h = some o := F6
      rcases E_if1 (tg := 19) rfl rfl E with ⟨hc, m36, hm37, E⟩ | ⟨hc, m38, hm39, E⟩
      ·
        clear hc
        obtain ⟨m40, hm41, E, hG⟩ := E_go (pc' := 20) (lv' := [(0, .ref 316), (1, .int s)]) (st' := [.int (0 : Int32)]) (h' := h) 1 rfl E hG
        have ho42 := E_reti rfl E
        exact Or.inr (Or.inl ⟨c25, c32, hG, ho42⟩)
      · exact absurd (show ¬ ((0 : Int) = 0) from hc) (by decide)
    ·
      have c43 : ¬ (15 < s.toInt) := hc
      clear hc
      obtain ⟨m44, hm45, E6, hG⟩ := E_go (pc' := 15) (lv' := [(0, .int s), (1, .int (0 : Int32)), (2, .int (15 : Int32))]) (st' := [.int (1 : Int32)]) (h' := h) 2 rfl E6 hG
      have ho46 := E_reti rfl E6
      subst ho46
      have E : rk_ex m3 d rm_X8_held 7 [(0, .ref 316), (1, .int s)] [.int (1 : Int32)] h = some o := F6
      rcases E_if1 (tg := 19) rfl rfl E with ⟨hc, m47, hm48, E⟩ | ⟨hc, m49, hm50, E⟩
      · exact absurd (show (1 : Int) = 0 from hc) (by decide)
      ·
        clear hc
        obtain ⟨m51, hm52, E, hG⟩ := E_go (pc' := 20) (lv' := [(0, .ref 316), (1, .int s)]) (st' := [.int (gi h 320 s.toNatClampNeg)]) (h' := h) 5 rfl E hG
        have ho53 := E_reti rfl E
        exact Or.inr (Or.inr ⟨c25, c43, hG, ho53⟩)
set_option maxRecDepth 100000 in
set_option maxHeartbeats 4000000 in
theorem yq_mlo {n d : Nat} {h : rk_S} {o : Option Value × rk_S} {v : Int32} (hG : yG h) (E : rk_ex n d rm_X8_lot 0 [(0, .ref 316), (1, .int v)] [] h = some o) :
    (yG (rk_pt h 321 0 (.int v)) ∧ o = (some (.int (gi h 321 0)), rk_pt h 321 0 (.int v))) := by
  obtain ⟨m1, hm2, E, hG⟩ := E_go (pc' := 15) (lv' := [(2, .int (gi h 321 0)), (0, .ref 316), (1, .int v)]) (st' := [.int (gi h 321 0)]) (h' := rk_pt h 321 0 (.int v)) 11 rfl E hG
  have ho3 := E_reti rfl E
  exact ⟨hG, ho3⟩
set_option maxRecDepth 100000 in
set_option maxHeartbeats 4000000 in
theorem yq_man {n d : Nat} {h : rk_S} {o : Option Value × rk_S} (hG : yG h) (E : rk_ex n d rm_X8_answer 0 [(0, .ref 316)] [] h = some o) :
    (yG h ∧ o = (some (.int (gi h 316 44)), h)) := by
  obtain ⟨m1, hm2, E, hG⟩ := E_go (pc' := 4) (lv' := [(0, .ref 316)]) (st' := [.int (gi h 316 44)]) (h' := h) 2 rfl E hG
  have ho3 := E_reti rfl E
  exact ⟨hG, ho3⟩
set_option maxRecDepth 100000 in
set_option maxHeartbeats 4000000 in
theorem yq_mfo {n d : Nat} {h : rk_S} {o : Option Value × rk_S} (hG : yG h) (E : rk_ex n d rm_X8_forget 0 [(0, .ref 316)] [] h = some o) :
    (yG (rk_pt h 322 0 (.int (0 : Int32))) ∧ o = (some (.int (gi h 322 0)), rk_pt h 322 0 (.int (0 : Int32)))) := by
  obtain ⟨m1, hm2, E, hG⟩ := E_go (pc' := 15) (lv' := [(1, .int (gi h 322 0)), (0, .ref 316)]) (st' := [.int (gi h 322 0)]) (h' := rk_pt h 322 0 (.int (0 : Int32))) 11 rfl E hG
  have ho3 := E_reti rfl E
  exact ⟨hG, ho3⟩
set_option maxRecDepth 100000 in
set_option maxHeartbeats 4000000 in
theorem yq_mcl {n d : Nat} {h : rk_S} {o : Option Value × rk_S} (hG : yG h) (E : rk_ex n d rm_X8_clear 0 [(0, .ref 316)] [] h = some o) :
    (yG (rk_pt h 316 45 (.int (0 : Int32))) ∧ o = (some (.int (gi h 316 45)), rk_pt h 316 45 (.int (0 : Int32)))) := by
  obtain ⟨m1, hm2, E, hG⟩ := E_go (pc' := 11) (lv' := [(1, .int (gi h 316 45)), (0, .ref 316)]) (st' := [.int (gi h 316 45)]) (h' := rk_pt h 316 45 (.int (0 : Int32))) 7 rfl E hG
  have ho3 := E_reti rfl E
  exact ⟨hG, ho3⟩
set_option maxRecDepth 100000 in
set_option maxHeartbeats 4000000 in
theorem yq_mlg {n d : Nat} {h : rk_S} {o : Option Value × rk_S} {r a b c : Int32} (hG : yG h) (E : rk_ex n d rm_X8_log 0 [(0, .ref 316), (1, .int r), (2, .int a), (3, .int b), (4, .int c)] [] h = some o) :
    (r.toInt < 0 ∧ yG h ∧ o = (some (.int ((-1) : Int32)), h)) ∨
    (¬ (r.toInt < 0) ∧ ((gi h 316 0) - (1 : Int32)).toInt < r.toInt ∧ yG h ∧ o = (some (.int ((-1) : Int32)), h)) ∨
    (¬ (r.toInt < 0) ∧ ¬ (((gi h 316 0) - (1 : Int32)).toInt < r.toInt) ∧ ¬ (gi h 316 45).toInt = 20 ∧ yG (rk_pt (rk_pt (rk_pt (rk_pt (rk_pt h 344 (((4 : Int32) * (gi h 316 45)).toNatClampNeg) (.int r)) 344 ((((4 : Int32) * (gi h 316 45)) + (1 : Int32)).toNatClampNeg) (.int a)) 344 ((((4 : Int32) * (gi h 316 45)) + (2 : Int32)).toNatClampNeg) (.int b)) 344 ((((4 : Int32) * (gi h 316 45)) + (3 : Int32)).toNatClampNeg) (.int c)) 316 45 (.int ((gi h 316 45) + (1 : Int32)))) ∧ o = (some (.int (gi (rk_pt (rk_pt (rk_pt (rk_pt (rk_pt h 344 (((4 : Int32) * (gi h 316 45)).toNatClampNeg) (.int r)) 344 ((((4 : Int32) * (gi h 316 45)) + (1 : Int32)).toNatClampNeg) (.int a)) 344 ((((4 : Int32) * (gi h 316 45)) + (2 : Int32)).toNatClampNeg) (.int b)) 344 ((((4 : Int32) * (gi h 316 45)) + (3 : Int32)).toNatClampNeg) (.int c)) 316 45 (.int ((gi h 316 45) + (1 : Int32)))) 316 45)), rk_pt (rk_pt (rk_pt (rk_pt (rk_pt h 344 (((4 : Int32) * (gi h 316 45)).toNatClampNeg) (.int r)) 344 ((((4 : Int32) * (gi h 316 45)) + (1 : Int32)).toNatClampNeg) (.int a)) 344 ((((4 : Int32) * (gi h 316 45)) + (2 : Int32)).toNatClampNeg) (.int b)) 344 ((((4 : Int32) * (gi h 316 45)) + (3 : Int32)).toNatClampNeg) (.int c)) 316 45 (.int ((gi h 316 45) + (1 : Int32))))) ∨
    (¬ (r.toInt < 0) ∧ ¬ (((gi h 316 0) - (1 : Int32)).toInt < r.toInt) ∧ (gi h 316 45).toInt = 20 ∧ yG h ∧ o = (some (.int ((-4) : Int32)), h)) := by
  obtain ⟨m1, hm2, E, hG⟩ := E_go (pc' := 2) (lv' := [(0, .ref 316), (1, .int r), (2, .int a), (3, .int b), (4, .int c)]) (st' := [.int r, .ref 316]) (h' := h) 2 rfl E hG
  obtain ⟨m3, d4, o5, hm7, E6, F6⟩ := E_call (ar := ([.ref 316, .int r], [])) rfl rfl rfl rfl rfl rfl E
  replace E6 : rk_ex m3 d4 rm_X8_isRoutine 0 [(0, .ref 316), (1, .int r)] [] h = some o5 := E6
  obtain ⟨m8, hm9, E6, hG⟩ := E_go (pc' := 8) (lv' := [(0, .ref 316), (1, .int r)]) (st' := [.int ((gi h 316 0) - (1 : Int32)), .int (0 : Int32), .int r]) (h' := h) 6 rfl E6 hG
  obtain ⟨m10, d11, o12, hm14, E13, F13⟩ := E_call (ar := ([.int r, .int (0 : Int32), .int ((gi h 316 0) - (1 : Int32))], [])) rfl rfl rfl rfl rfl rfl E6
  replace E13 : rk_ex m10 d11 rm_X8_in 0 [(0, .int r), (1, .int (0 : Int32)), (2, .int ((gi h 316 0) - (1 : Int32)))] [] h = some o12 := E13
  obtain ⟨m15, hm16, E13, hG⟩ := E_go (pc' := 2) (lv' := [(0, .int r), (1, .int (0 : Int32)), (2, .int ((gi h 316 0) - (1 : Int32)))]) (st' := [.int (0 : Int32), .int r]) (h' := h) 2 rfl E13 hG
  rcases E_if2 (tg := 14) rfl rfl E13 with ⟨hc, m17, hm18, E13⟩ | ⟨hc, m19, hm20, E13⟩
  ·
    have c21 : r.toInt < 0 := hc
    clear hc
    obtain ⟨m22, hm23, E13, hG⟩ := E_go (pc' := 15) (lv' := [(0, .int r), (1, .int (0 : Int32)), (2, .int ((gi h 316 0) - (1 : Int32)))]) (st' := [.int (0 : Int32)]) (h' := h) 1 rfl E13 hG
    have ho24 := E_reti rfl E13
    subst ho24
    have E6 : rk_ex m10 d4 rm_X8_isRoutine 11 [(0, .ref 316), (1, .int r)] [.int (0 : Int32)] h = some o5 := F13
    have ho25 := E_reti rfl E6
    subst ho25
    have E : rk_ex m3 d rm_X8_log 5 [(0, .ref 316), (1, .int r), (2, .int a), (3, .int b), (4, .int c)] [.int (0 : Int32)] h = some o := F6
    rcases E_if1 (tg := 10) rfl rfl E with ⟨hc, m26, hm27, E⟩ | ⟨hc, m28, hm29, E⟩
    · exact absurd (show ¬ (0 : Int) = 0 from hc) (by decide)
    ·
      clear hc
      obtain ⟨m30, hm31, E, hG⟩ := E_go (pc' := 9) (lv' := [(0, .ref 316), (1, .int r), (2, .int a), (3, .int b), (4, .int c)]) (st' := [.int ((-1) : Int32)]) (h' := h) 1 rfl E hG
      have ho32 := E_reti rfl E
      exact Or.inl ⟨c21, hG, ho32⟩
  ·
    have c33 : ¬ (r.toInt < 0) := hc
    clear hc
    obtain ⟨m34, hm35, E13, hG⟩ := E_go (pc' := 7) (lv' := [(0, .int r), (1, .int (0 : Int32)), (2, .int ((gi h 316 0) - (1 : Int32)))]) (st' := [.int ((gi h 316 0) - (1 : Int32)), .int r]) (h' := h) 2 rfl E13 hG
    rcases E_if2 (tg := 14) rfl rfl E13 with ⟨hc, m36, hm37, E13⟩ | ⟨hc, m38, hm39, E13⟩
    ·
      have c40 : ((gi h 316 0) - (1 : Int32)).toInt < r.toInt := hc
      clear hc
      obtain ⟨m41, hm42, E13, hG⟩ := E_go (pc' := 15) (lv' := [(0, .int r), (1, .int (0 : Int32)), (2, .int ((gi h 316 0) - (1 : Int32)))]) (st' := [.int (0 : Int32)]) (h' := h) 1 rfl E13 hG
      have ho43 := E_reti rfl E13
      subst ho43
      have E6 : rk_ex m10 d4 rm_X8_isRoutine 11 [(0, .ref 316), (1, .int r)] [.int (0 : Int32)] h = some o5 := F13
      have ho44 := E_reti rfl E6
      subst ho44
      have E : rk_ex m3 d rm_X8_log 5 [(0, .ref 316), (1, .int r), (2, .int a), (3, .int b), (4, .int c)] [.int (0 : Int32)] h = some o := F6
      rcases E_if1 (tg := 10) rfl rfl E with ⟨hc, m45, hm46, E⟩ | ⟨hc, m47, hm48, E⟩
      · exact absurd (show ¬ (0 : Int) = 0 from hc) (by decide)
      ·
        clear hc
        obtain ⟨m49, hm50, E, hG⟩ := E_go (pc' := 9) (lv' := [(0, .ref 316), (1, .int r), (2, .int a), (3, .int b), (4, .int c)]) (st' := [.int ((-1) : Int32)]) (h' := h) 1 rfl E hG
        have ho51 := E_reti rfl E
        exact Or.inr (Or.inl ⟨c33, c40, hG, ho51⟩)
    ·
      have c52 : ¬ (((gi h 316 0) - (1 : Int32)).toInt < r.toInt) := hc
      clear hc
      obtain ⟨m53, hm54, E13, hG⟩ := E_go (pc' := 15) (lv' := [(0, .int r), (1, .int (0 : Int32)), (2, .int ((gi h 316 0) - (1 : Int32)))]) (st' := [.int (1 : Int32)]) (h' := h) 2 rfl E13 hG
      have ho55 := E_reti rfl E13
      subst ho55
      have E6 : rk_ex m10 d4 rm_X8_isRoutine 11 [(0, .ref 316), (1, .int r)] [.int (1 : Int32)] h = some o5 := F13
      have ho56 := E_reti rfl E6
      subst ho56
      have E : rk_ex m3 d rm_X8_log 5 [(0, .ref 316), (1, .int r), (2, .int a), (3, .int b), (4, .int c)] [.int (1 : Int32)] h = some o := F6
      rcases E_if1 (tg := 10) rfl rfl E with ⟨hc, m57, hm58, E⟩ | ⟨hc, m59, hm60, E⟩
      ·
        clear hc
        obtain ⟨m61, hm62, E, hG⟩ := E_go (pc' := 16) (lv' := [(0, .ref 316), (1, .int r), (2, .int a), (3, .int b), (4, .int c)]) (st' := [.int (20 : Int32), .int (gi h 316 45)]) (h' := h) 3 rfl E hG
        rcases E_if2 (tg := 22) rfl rfl E with ⟨hc, m63, hm64, E⟩ | ⟨hc, m65, hm66, E⟩
        ·
          have c67 : ¬ (gi h 316 45).toInt = 20 := hc
          clear hc
          obtain ⟨m68, hm69, E, hG⟩ := E_go (pc' := 91) (lv' := [(0, .ref 316), (1, .int r), (2, .int a), (3, .int b), (4, .int c)]) (st' := [.int (gi (rk_pt (rk_pt (rk_pt (rk_pt (rk_pt h 344 (((4 : Int32) * (gi h 316 45)).toNatClampNeg) (.int r)) 344 ((((4 : Int32) * (gi (rk_pt h 344 (((4 : Int32) * (gi h 316 45)).toNatClampNeg) (.int r)) 316 45)) + (1 : Int32)).toNatClampNeg) (.int a)) 344 ((((4 : Int32) * (gi (rk_pt (rk_pt h 344 (((4 : Int32) * (gi h 316 45)).toNatClampNeg) (.int r)) 344 ((((4 : Int32) * (gi (rk_pt h 344 (((4 : Int32) * (gi h 316 45)).toNatClampNeg) (.int r)) 316 45)) + (1 : Int32)).toNatClampNeg) (.int a)) 316 45)) + (2 : Int32)).toNatClampNeg) (.int b)) 344 ((((4 : Int32) * (gi (rk_pt (rk_pt (rk_pt h 344 (((4 : Int32) * (gi h 316 45)).toNatClampNeg) (.int r)) 344 ((((4 : Int32) * (gi (rk_pt h 344 (((4 : Int32) * (gi h 316 45)).toNatClampNeg) (.int r)) 316 45)) + (1 : Int32)).toNatClampNeg) (.int a)) 344 ((((4 : Int32) * (gi (rk_pt (rk_pt h 344 (((4 : Int32) * (gi h 316 45)).toNatClampNeg) (.int r)) 344 ((((4 : Int32) * (gi (rk_pt h 344 (((4 : Int32) * (gi h 316 45)).toNatClampNeg) (.int r)) 316 45)) + (1 : Int32)).toNatClampNeg) (.int a)) 316 45)) + (2 : Int32)).toNatClampNeg) (.int b)) 316 45)) + (3 : Int32)).toNatClampNeg) (.int c)) 316 45 (.int ((gi (rk_pt (rk_pt (rk_pt (rk_pt h 344 (((4 : Int32) * (gi h 316 45)).toNatClampNeg) (.int r)) 344 ((((4 : Int32) * (gi (rk_pt h 344 (((4 : Int32) * (gi h 316 45)).toNatClampNeg) (.int r)) 316 45)) + (1 : Int32)).toNatClampNeg) (.int a)) 344 ((((4 : Int32) * (gi (rk_pt (rk_pt h 344 (((4 : Int32) * (gi h 316 45)).toNatClampNeg) (.int r)) 344 ((((4 : Int32) * (gi (rk_pt h 344 (((4 : Int32) * (gi h 316 45)).toNatClampNeg) (.int r)) 316 45)) + (1 : Int32)).toNatClampNeg) (.int a)) 316 45)) + (2 : Int32)).toNatClampNeg) (.int b)) 344 ((((4 : Int32) * (gi (rk_pt (rk_pt (rk_pt h 344 (((4 : Int32) * (gi h 316 45)).toNatClampNeg) (.int r)) 344 ((((4 : Int32) * (gi (rk_pt h 344 (((4 : Int32) * (gi h 316 45)).toNatClampNeg) (.int r)) 316 45)) + (1 : Int32)).toNatClampNeg) (.int a)) 344 ((((4 : Int32) * (gi (rk_pt (rk_pt h 344 (((4 : Int32) * (gi h 316 45)).toNatClampNeg) (.int r)) 344 ((((4 : Int32) * (gi (rk_pt h 344 (((4 : Int32) * (gi h 316 45)).toNatClampNeg) (.int r)) 316 45)) + (1 : Int32)).toNatClampNeg) (.int a)) 316 45)) + (2 : Int32)).toNatClampNeg) (.int b)) 316 45)) + (3 : Int32)).toNatClampNeg) (.int c)) 316 45) + (1 : Int32)))) 316 45)]) (h' := rk_pt (rk_pt (rk_pt (rk_pt (rk_pt h 344 (((4 : Int32) * (gi h 316 45)).toNatClampNeg) (.int r)) 344 ((((4 : Int32) * (gi (rk_pt h 344 (((4 : Int32) * (gi h 316 45)).toNatClampNeg) (.int r)) 316 45)) + (1 : Int32)).toNatClampNeg) (.int a)) 344 ((((4 : Int32) * (gi (rk_pt (rk_pt h 344 (((4 : Int32) * (gi h 316 45)).toNatClampNeg) (.int r)) 344 ((((4 : Int32) * (gi (rk_pt h 344 (((4 : Int32) * (gi h 316 45)).toNatClampNeg) (.int r)) 316 45)) + (1 : Int32)).toNatClampNeg) (.int a)) 316 45)) + (2 : Int32)).toNatClampNeg) (.int b)) 344 ((((4 : Int32) * (gi (rk_pt (rk_pt (rk_pt h 344 (((4 : Int32) * (gi h 316 45)).toNatClampNeg) (.int r)) 344 ((((4 : Int32) * (gi (rk_pt h 344 (((4 : Int32) * (gi h 316 45)).toNatClampNeg) (.int r)) 316 45)) + (1 : Int32)).toNatClampNeg) (.int a)) 344 ((((4 : Int32) * (gi (rk_pt (rk_pt h 344 (((4 : Int32) * (gi h 316 45)).toNatClampNeg) (.int r)) 344 ((((4 : Int32) * (gi (rk_pt h 344 (((4 : Int32) * (gi h 316 45)).toNatClampNeg) (.int r)) 316 45)) + (1 : Int32)).toNatClampNeg) (.int a)) 316 45)) + (2 : Int32)).toNatClampNeg) (.int b)) 316 45)) + (3 : Int32)).toNatClampNeg) (.int c)) 316 45 (.int ((gi (rk_pt (rk_pt (rk_pt (rk_pt h 344 (((4 : Int32) * (gi h 316 45)).toNatClampNeg) (.int r)) 344 ((((4 : Int32) * (gi (rk_pt h 344 (((4 : Int32) * (gi h 316 45)).toNatClampNeg) (.int r)) 316 45)) + (1 : Int32)).toNatClampNeg) (.int a)) 344 ((((4 : Int32) * (gi (rk_pt (rk_pt h 344 (((4 : Int32) * (gi h 316 45)).toNatClampNeg) (.int r)) 344 ((((4 : Int32) * (gi (rk_pt h 344 (((4 : Int32) * (gi h 316 45)).toNatClampNeg) (.int r)) 316 45)) + (1 : Int32)).toNatClampNeg) (.int a)) 316 45)) + (2 : Int32)).toNatClampNeg) (.int b)) 344 ((((4 : Int32) * (gi (rk_pt (rk_pt (rk_pt h 344 (((4 : Int32) * (gi h 316 45)).toNatClampNeg) (.int r)) 344 ((((4 : Int32) * (gi (rk_pt h 344 (((4 : Int32) * (gi h 316 45)).toNatClampNeg) (.int r)) 316 45)) + (1 : Int32)).toNatClampNeg) (.int a)) 344 ((((4 : Int32) * (gi (rk_pt (rk_pt h 344 (((4 : Int32) * (gi h 316 45)).toNatClampNeg) (.int r)) 344 ((((4 : Int32) * (gi (rk_pt h 344 (((4 : Int32) * (gi h 316 45)).toNatClampNeg) (.int r)) 316 45)) + (1 : Int32)).toNatClampNeg) (.int a)) 316 45)) + (2 : Int32)).toNatClampNeg) (.int b)) 316 45)) + (3 : Int32)).toNatClampNeg) (.int c)) 316 45) + (1 : Int32)))) 46 rfl E hG
          try simp only [gi_x (a := 344) (a' := 316) (by decide)] at E hG
          have ho70 := E_reti rfl E
          exact Or.inr (Or.inr (Or.inl ⟨c33, c52, c67, hG, ho70⟩))
        ·
          have c71 : (gi h 316 45).toInt = 20 := Decidable.not_not.mp hc
          clear hc
          obtain ⟨m72, hm73, E, hG⟩ := E_go (pc' := 21) (lv' := [(0, .ref 316), (1, .int r), (2, .int a), (3, .int b), (4, .int c)]) (st' := [.int ((-4) : Int32)]) (h' := h) 1 rfl E hG
          have ho74 := E_reti rfl E
          exact Or.inr (Or.inr (Or.inr ⟨c33, c52, c71, hG, ho74⟩))
      · exact absurd (show ¬ (¬ (1 : Int) = 0) from hc) (by decide)
set_option maxRecDepth 100000 in
set_option maxHeartbeats 4000000 in
theorem yq_mk2 {n d : Nat} {h : rk_S} {o : Option Value × rk_S} {q z y : Int32} (hG : yG h) (E : rk_ex n d rm_X8_keep 43 [(3, .int y), (0, .ref 316), (1, .int q), (2, .int z)] [] h = some o) :
    (∃ m, m < n ∧ yG (rk_pt h 316 21 (.int (0 : Int32))) ∧ rk_ex m d rm_X8_keep 58 [(0, .ref 316), (1, .int q), (2, .int z), (3, .int y), (4, .int ((gi h 322 0) - (1 : Int32)))] [] (rk_pt h 316 21 (.int (0 : Int32))) = some o) := by
  obtain ⟨m1, hm2, E, hG⟩ := E_go (pc' := 58) (lv' := [(4, .int ((gi (rk_pt h 316 21 (.int (0 : Int32))) 322 0) - (1 : Int32))), (3, .int y), (0, .ref 316), (1, .int q), (2, .int z)]) (st' := []) (h' := rk_pt h 316 21 (.int (0 : Int32))) 10 rfl E hG
  try simp only [gi_x (a := 316) (a' := 322) (by decide)] at E hG
  replace E := E_lv [(0, .ref 316), (1, .int q), (2, .int z), (3, .int y), (4, .int ((gi h 322 0) - (1 : Int32)))] rfl (lvs_c rfl rfl (lvs_c rfl rfl (lvs_c rfl rfl (lvs_c rfl rfl (lvs_c rfl rfl lvs_n))))) E
  exact ⟨_, (by omega), hG, E⟩
set_option maxRecDepth 100000 in
set_option maxHeartbeats 4000000 in
theorem yq_pu0 {n d : Nat} {h : rk_S} {o : Option Value × rk_S} (hG : yG h) (E : rk_ex n d rm_X8_pure 0 [(0, .ref 316)] [] h = some o) :
    (∃ m, m < n ∧ yG h ∧ rk_ex m d rm_X8_pure 4 [(0, .ref 316), (1, .int (0 : Int32)), (2, .int (0 : Int32))] [] h = some o) := by
  obtain ⟨m1, hm2, E, hG⟩ := E_go (pc' := 4) (lv' := [(2, .int (0 : Int32)), (1, .int (0 : Int32)), (0, .ref 316)]) (st' := []) (h' := h) 4 rfl E hG
  replace E := E_lv [(0, .ref 316), (1, .int (0 : Int32)), (2, .int (0 : Int32))] rfl (lvs_c rfl rfl (lvs_c rfl rfl (lvs_c rfl rfl lvs_n))) E
  exact ⟨_, (by omega), hG, E⟩
set_option maxRecDepth 100000 in
set_option maxHeartbeats 4000000 in
theorem yq_pu {n d : Nat} {h : rk_S} {o : Option Value × rk_S} {w k : Int32} (hG : yG h) (E : rk_ex n d rm_X8_pure 4 [(0, .ref 316), (1, .int w), (2, .int k)] [] h = some o) :
    ((gi h 316 0).toInt ≤ k.toInt ∧ yG h ∧ o = (some (.int w), h)) ∨
    (¬ ((gi h 316 0).toInt ≤ k.toInt) ∧ ∃ m, m < n + 1 ∧ yG h ∧ rk_ex m d rm_X8_pure 15 [(0, .ref 316), (1, .int w), (2, .int k)] [.int k, .ref 316, .int w] h = some o) := by
  obtain ⟨m1, hm2, E, hG⟩ := E_go (pc' := 9) (lv' := [(0, .ref 316), (1, .int w), (2, .int k)]) (st' := [.int (gi h 316 0), .int k]) (h' := h) 3 rfl E hG
  rcases E_if2 (tg := 36) rfl rfl E with ⟨hc, m3, hm4, E⟩ | ⟨hc, m5, hm6, E⟩
  ·
    have c7 : (gi h 316 0).toInt ≤ k.toInt := hc
    clear hc
    obtain ⟨m8, hm9, E, hG⟩ := E_go (pc' := 37) (lv' := [(0, .ref 316), (1, .int w), (2, .int k)]) (st' := [.int w]) (h' := h) 1 rfl E hG
    have ho10 := E_reti rfl E
    exact Or.inl ⟨c7, hG, ho10⟩
  ·
    have c11 : ¬ ((gi h 316 0).toInt ≤ k.toInt) := hc
    clear hc
    obtain ⟨m12, hm13, E, hG⟩ := E_go (pc' := 15) (lv' := [(0, .ref 316), (1, .int w), (2, .int k)]) (st' := [.int k, .ref 316, .int w]) (h' := h) 3 rfl E hG
    exact Or.inr ⟨c11, _, (by omega), hG, E⟩
set_option maxRecDepth 100000 in
set_option maxHeartbeats 4000000 in
theorem yq_pu1 {n d : Nat} {h : rk_S} {o : Option Value × rk_S} {w k y : Int32} (hG : yG h) (E : rk_ex n d rm_X8_pure 18 [(0, .ref 316), (1, .int w), (2, .int k)] [.int y, .int w] h = some o) :
    (¬ y.toInt = 0 ∧ ∃ m, m < n ∧ yG h ∧ rk_ex m d rm_X8_pure 4 [(0, .ref 316), (1, .int (w ||| (0 : Int32))), (2, .int (k + (1 : Int32)))] [] h = some o) ∨
    (y.toInt = 0 ∧ ∃ m, m < n ∧ yG h ∧ rk_ex m d rm_X8_pure 4 [(0, .ref 316), (1, .int (w ||| ((1 : Int32) <<< (k &&& 31)))), (2, .int (k + (1 : Int32)))] [] h = some o) := by
  rcases E_if1 (tg := 27) rfl rfl E with ⟨hc, m1, hm2, E⟩ | ⟨hc, m3, hm4, E⟩
  ·
    have c5 : ¬ y.toInt = 0 := hc
    clear hc
    obtain ⟨m6, hm7, E, hG⟩ := E_go (pc' := 4) (lv' := [(2, .int (k + (1 : Int32))), (1, .int (w ||| (0 : Int32))), (0, .ref 316)]) (st' := []) (h' := h) 5 rfl E hG
    replace E := E_lv [(0, .ref 316), (1, .int (w ||| (0 : Int32))), (2, .int (k + (1 : Int32)))] rfl (lvs_c rfl rfl (lvs_c rfl rfl (lvs_c rfl rfl lvs_n))) E
    exact Or.inl ⟨c5, _, (by omega), hG, E⟩
  ·
    have c9 : y.toInt = 0 := Decidable.not_not.mp hc
    clear hc
    obtain ⟨m10, hm11, E, hG⟩ := E_go (pc' := 4) (lv' := [(2, .int (k + (1 : Int32))), (1, .int (w ||| ((1 : Int32) <<< (k &&& 31)))), (0, .ref 316)]) (st' := []) (h' := h) 8 rfl E hG
    replace E := E_lv [(0, .ref 316), (1, .int (w ||| ((1 : Int32) <<< (k &&& 31)))), (2, .int (k + (1 : Int32)))] rfl (lvs_c rfl rfl (lvs_c rfl rfl (lvs_c rfl rfl lvs_n))) E
    exact Or.inr ⟨c9, _, (by omega), hG, E⟩
set_option maxRecDepth 100000 in
set_option maxHeartbeats 4000000 in
theorem yq_cf0 {n d : Nat} {h : rk_S} {o : Option Value × rk_S} {q p : Int32} (hG : yG h) (E : rk_ex n d rm_X8_costOf 0 [(0, .ref 316), (1, .int q), (2, .int p)] [] h = some o) :
    (∃ m, m < n ∧ yG (rk_pt (rk_pt h 322 1 (.int (0 : Int32))) 321 1 (.int (gi h 321 0))) ∧ rk_ex m d rm_X8_costOf 21 [(0, .ref 316), (1, .int q), (2, .int p), (3, .int (0 : Int32))] [] (rk_pt (rk_pt h 322 1 (.int (0 : Int32))) 321 1 (.int (gi h 321 0))) = some o) := by
  obtain ⟨m1, hm2, E, hG⟩ := E_go (pc' := 21) (lv' := [(3, .int (0 : Int32)), (0, .ref 316), (1, .int q), (2, .int p)]) (st' := []) (h' := rk_pt (rk_pt h 322 1 (.int (0 : Int32))) 321 1 (.int (gi (rk_pt h 322 1 (.int (0 : Int32))) 321 0))) 15 rfl E hG
  try simp only [gi_x (a := 322) (a' := 321) (by decide)] at E hG
  replace E := E_lv [(0, .ref 316), (1, .int q), (2, .int p), (3, .int (0 : Int32))] rfl (lvs_c rfl rfl (lvs_c rfl rfl (lvs_c rfl rfl (lvs_c rfl rfl lvs_n)))) E
  exact ⟨_, (by omega), hG, E⟩
set_option maxRecDepth 100000 in
set_option maxHeartbeats 4000000 in
theorem yq_cf1 {n d : Nat} {h : rk_S} {o : Option Value × rk_S} {q p x : Int32} (hG : yG h) (E : rk_ex n d rm_X8_costOf 21 [(0, .ref 316), (1, .int q), (2, .int p), (3, .int x)] [] h = some o) :
    (16 ≤ x.toInt ∧ ∃ m, m < n ∧ yG h ∧ rk_ex m d rm_X8_costOf 53 [(0, .ref 316), (1, .int q), (2, .int p), (3, .int (0 : Int32)), (4, .int (0 : Int32))] [] h = some o) ∨
    (¬ (16 ≤ x.toInt) ∧ ∃ m, m < n ∧ yG (rk_pt h 320 (((16 : Int32) + x).toNatClampNeg) (.int (gi h 320 x.toNatClampNeg))) ∧ rk_ex m d rm_X8_costOf 21 [(0, .ref 316), (1, .int q), (2, .int p), (3, .int (x + (1 : Int32)))] [] (rk_pt h 320 (((16 : Int32) + x).toNatClampNeg) (.int (gi h 320 x.toNatClampNeg))) = some o) := by
  obtain ⟨m1, hm2, E, hG⟩ := E_go (pc' := 24) (lv' := [(0, .ref 316), (1, .int q), (2, .int p), (3, .int x)]) (st' := [.int (16 : Int32), .int x]) (h' := h) 2 rfl E hG
  rcases E_if2 (tg := 48) rfl rfl E with ⟨hc, m3, hm4, E⟩ | ⟨hc, m5, hm6, E⟩
  ·
    have c7 : 16 ≤ x.toInt := hc
    clear hc
    obtain ⟨m8, hm9, E, hG⟩ := E_go (pc' := 53) (lv' := [(4, .int (0 : Int32)), (3, .int (0 : Int32)), (0, .ref 316), (1, .int q), (2, .int p)]) (st' := []) (h' := h) 4 rfl E hG
    replace E := E_lv [(0, .ref 316), (1, .int q), (2, .int p), (3, .int (0 : Int32)), (4, .int (0 : Int32))] rfl (lvs_c rfl rfl (lvs_c rfl rfl (lvs_c rfl rfl (lvs_c rfl rfl (lvs_c rfl rfl lvs_n))))) E
    exact Or.inl ⟨c7, _, (by omega), hG, E⟩
  ·
    have c11 : ¬ (16 ≤ x.toInt) := hc
    clear hc
    obtain ⟨m12, hm13, E, hG⟩ := E_go (pc' := 21) (lv' := [(3, .int (x + (1 : Int32))), (0, .ref 316), (1, .int q), (2, .int p)]) (st' := []) (h' := rk_pt h 320 (((16 : Int32) + x).toNatClampNeg) (.int (gi h 320 x.toNatClampNeg))) 12 rfl E hG
    replace E := E_lv [(0, .ref 316), (1, .int q), (2, .int p), (3, .int (x + (1 : Int32)))] rfl (lvs_c rfl rfl (lvs_c rfl rfl (lvs_c rfl rfl (lvs_c rfl rfl lvs_n)))) E
    exact Or.inr ⟨c11, _, (by omega), hG, E⟩
set_option maxRecDepth 100000 in
set_option maxHeartbeats 4000000 in
theorem yq_cf2 {n d : Nat} {h : rk_S} {o : Option Value × rk_S} {q p x k : Int32} (hG : yG h) (E : rk_ex n d rm_X8_costOf 53 [(0, .ref 316), (1, .int q), (2, .int p), (3, .int x), (4, .int k)] [] h = some o) :
    ((gi h 316 45).toInt ≤ k.toInt ∧ yG h ∧ o = (some (.int x), h)) ∨
    (¬ ((gi h 316 45).toInt ≤ k.toInt) ∧ ∃ m, m < n + 1 ∧ yG h ∧ rk_ex m d rm_X8_costOf 108 [(0, .ref 316), (1, .int q), (2, .int p), (3, .int x), (4, .int k)] [.int (gi h 344 ((((4 : Int32) * k) + (3 : Int32)).toNatClampNeg)), .int (gi h 344 ((((4 : Int32) * k) + (2 : Int32)).toNatClampNeg)), .int (gi h 344 ((((4 : Int32) * k) + (1 : Int32)).toNatClampNeg)), .int (gi h 344 (((4 : Int32) * k).toNatClampNeg)), .int p, .int q, .int (1 : Int32), .ref 316] h = some o) := by
  obtain ⟨m1, hm2, E, hG⟩ := E_go (pc' := 59) (lv' := [(0, .ref 316), (1, .int q), (2, .int p), (3, .int x), (4, .int k)]) (st' := [.int (gi h 316 45), .int k]) (h' := h) 3 rfl E hG
  rcases E_if2 (tg := 124) rfl rfl E with ⟨hc, m3, hm4, E⟩ | ⟨hc, m5, hm6, E⟩
  ·
    have c7 : (gi h 316 45).toInt ≤ k.toInt := hc
    clear hc
    obtain ⟨m8, hm9, E, hG⟩ := E_go (pc' := 125) (lv' := [(0, .ref 316), (1, .int q), (2, .int p), (3, .int x), (4, .int k)]) (st' := [.int x]) (h' := h) 1 rfl E hG
    have ho10 := E_reti rfl E
    exact Or.inl ⟨c7, hG, ho10⟩
  ·
    have c11 : ¬ ((gi h 316 45).toInt ≤ k.toInt) := hc
    clear hc
    obtain ⟨m12, hm13, E, hG⟩ := E_go (pc' := 108) (lv' := [(0, .ref 316), (1, .int q), (2, .int p), (3, .int x), (4, .int k)]) (st' := [.int (gi h 344 ((((4 : Int32) * k) + (3 : Int32)).toNatClampNeg)), .int (gi h 344 ((((4 : Int32) * k) + (2 : Int32)).toNatClampNeg)), .int (gi h 344 ((((4 : Int32) * k) + (1 : Int32)).toNatClampNeg)), .int (gi h 344 (((4 : Int32) * k).toNatClampNeg)), .int p, .int q, .int (1 : Int32), .ref 316]) (h' := h) 34 rfl E hG
    exact Or.inr ⟨c11, _, (by omega), hG, E⟩
set_option maxRecDepth 100000 in
set_option maxHeartbeats 4000000 in
theorem yq_cf3 {n d : Nat} {h : rk_S} {o : Option Value × rk_S} {q p x k : Int32} (hG : yG h) (E : rk_ex n d rm_X8_costOf 111 [(0, .ref 316), (1, .int q), (2, .int p), (3, .int x), (4, .int k)] [] h = some o) :
    (∃ m, m < n ∧ yG h ∧ rk_ex m d rm_X8_costOf 53 [(0, .ref 316), (1, .int q), (2, .int p), (3, .int (x + (gi h 316 35))), (4, .int (k + (1 : Int32)))] [] h = some o) := by
  obtain ⟨m1, hm2, E, hG⟩ := E_go (pc' := 53) (lv' := [(4, .int (k + (1 : Int32))), (3, .int (x + (gi h 316 35))), (0, .ref 316), (1, .int q), (2, .int p)]) (st' := []) (h' := h) 7 rfl E hG
  replace E := E_lv [(0, .ref 316), (1, .int q), (2, .int p), (3, .int (x + (gi h 316 35))), (4, .int (k + (1 : Int32)))] rfl (lvs_c rfl rfl (lvs_c rfl rfl (lvs_c rfl rfl (lvs_c rfl rfl (lvs_c rfl rfl lvs_n))))) E
  exact ⟨_, (by omega), hG, E⟩
set_option maxRecDepth 100000 in
set_option maxHeartbeats 4000000 in
theorem yq_co0 {n d : Nat} {h : rk_S} {o : Option Value × rk_S} {q p : Int32} (hG : yG h) (E : rk_ex n d rm_X8_cost 0 [(0, .ref 316), (1, .int q), (2, .int p)] [] h = some o) :
    (p.toInt < 0 ∧ yG h ∧ o = (some (.int ((-2) : Int32)), h)) ∨
    (¬ (p.toInt < 0) ∧ 32 < p.toInt ∧ yG h ∧ o = (some (.int ((-2) : Int32)), h)) ∨
    (¬ (p.toInt < 0) ∧ ¬ (32 < p.toInt) ∧ ∃ m, m < n + 1 ∧ yG h ∧ rk_ex m d rm_X8_cost 13 [(0, .ref 316), (1, .int q), (2, .int p)] [.ref 316, .int q, .ref 316] h = some o) := by
  obtain ⟨m1, hm2, E, hG⟩ := E_go (pc' := 4) (lv' := [(0, .ref 316), (1, .int q), (2, .int p)]) (st' := [.int (32 : Int32), .int (0 : Int32), .int p]) (h' := h) 3 rfl E hG
  obtain ⟨m3, d4, o5, hm7, E6, F6⟩ := E_call (ar := ([.int p, .int (0 : Int32), .int (32 : Int32)], [])) rfl rfl rfl rfl rfl rfl E
  replace E6 : rk_ex m3 d4 rm_X8_in 0 [(0, .int p), (1, .int (0 : Int32)), (2, .int (32 : Int32))] [] h = some o5 := E6
  obtain ⟨m8, hm9, E6, hG⟩ := E_go (pc' := 2) (lv' := [(0, .int p), (1, .int (0 : Int32)), (2, .int (32 : Int32))]) (st' := [.int (0 : Int32), .int p]) (h' := h) 2 rfl E6 hG
  rcases E_if2 (tg := 14) rfl rfl E6 with ⟨hc, m10, hm11, E6⟩ | ⟨hc, m12, hm13, E6⟩
  ·
    have c14 : p.toInt < 0 := hc
    clear hc
    obtain ⟨m15, hm16, E6, hG⟩ := E_go (pc' := 15) (lv' := [(0, .int p), (1, .int (0 : Int32)), (2, .int (32 : Int32))]) (st' := [.int (0 : Int32)]) (h' := h) 1 rfl E6 hG
    have ho17 := E_reti rfl E6
    subst ho17
    have E : rk_ex m3 d rm_X8_cost 7 [(0, .ref 316), (1, .int q), (2, .int p)] [.int (0 : Int32)] h = some o := F6
    rcases E_if1 (tg := 24) rfl rfl E with ⟨hc, m18, hm19, E⟩ | ⟨hc, m20, hm21, E⟩
    ·
      clear hc
      obtain ⟨m22, hm23, E, hG⟩ := E_go (pc' := 26) (lv' := [(0, .ref 316), (1, .int q), (2, .int p)]) (st' := [.int ((-2) : Int32)]) (h' := h) 1 rfl E hG
      have ho24 := E_reti rfl E
      exact Or.inl ⟨c14, hG, ho24⟩
    · exact absurd (show ¬ ((0 : Int) = 0) from hc) (by decide)
  ·
    have c25 : ¬ (p.toInt < 0) := hc
    clear hc
    obtain ⟨m26, hm27, E6, hG⟩ := E_go (pc' := 7) (lv' := [(0, .int p), (1, .int (0 : Int32)), (2, .int (32 : Int32))]) (st' := [.int (32 : Int32), .int p]) (h' := h) 2 rfl E6 hG
    rcases E_if2 (tg := 14) rfl rfl E6 with ⟨hc, m28, hm29, E6⟩ | ⟨hc, m30, hm31, E6⟩
    ·
      have c32 : 32 < p.toInt := hc
      clear hc
      obtain ⟨m33, hm34, E6, hG⟩ := E_go (pc' := 15) (lv' := [(0, .int p), (1, .int (0 : Int32)), (2, .int (32 : Int32))]) (st' := [.int (0 : Int32)]) (h' := h) 1 rfl E6 hG
      have ho35 := E_reti rfl E6
      subst ho35
      have E : rk_ex m3 d rm_X8_cost 7 [(0, .ref 316), (1, .int q), (2, .int p)] [.int (0 : Int32)] h = some o := F6
      rcases E_if1 (tg := 24) rfl rfl E with ⟨hc, m36, hm37, E⟩ | ⟨hc, m38, hm39, E⟩
      ·
        clear hc
        obtain ⟨m40, hm41, E, hG⟩ := E_go (pc' := 26) (lv' := [(0, .ref 316), (1, .int q), (2, .int p)]) (st' := [.int ((-2) : Int32)]) (h' := h) 1 rfl E hG
        have ho42 := E_reti rfl E
        exact Or.inr (Or.inl ⟨c25, c32, hG, ho42⟩)
      · exact absurd (show ¬ ((0 : Int) = 0) from hc) (by decide)
    ·
      have c43 : ¬ (32 < p.toInt) := hc
      clear hc
      obtain ⟨m44, hm45, E6, hG⟩ := E_go (pc' := 15) (lv' := [(0, .int p), (1, .int (0 : Int32)), (2, .int (32 : Int32))]) (st' := [.int (1 : Int32)]) (h' := h) 2 rfl E6 hG
      have ho46 := E_reti rfl E6
      subst ho46
      have E : rk_ex m3 d rm_X8_cost 7 [(0, .ref 316), (1, .int q), (2, .int p)] [.int (1 : Int32)] h = some o := F6
      rcases E_if1 (tg := 24) rfl rfl E with ⟨hc, m47, hm48, E⟩ | ⟨hc, m49, hm50, E⟩
      · exact absurd (show (1 : Int) = 0 from hc) (by decide)
      ·
        clear hc
        obtain ⟨m51, hm52, E, hG⟩ := E_go (pc' := 13) (lv' := [(0, .ref 316), (1, .int q), (2, .int p)]) (st' := [.ref 316, .int q, .ref 316]) (h' := h) 3 rfl E hG
        exact Or.inr (Or.inr ⟨c25, c43, _, (by omega), hG, E⟩)
set_option maxRecDepth 100000 in
set_option maxHeartbeats 4000000 in
theorem yq_co1 {n d : Nat} {h : rk_S} {o : Option Value × rk_S} {q p y : Int32} (hG : yG h) (E : rk_ex n d rm_X8_cost 16 [(0, .ref 316), (1, .int q), (2, .int p)] [.int y, .int q, .ref 316] h = some o) :
    (∃ m, m < n + 1 ∧ yG h ∧ rk_ex m d rm_X8_cost 18 [(0, .ref 316), (1, .int q), (2, .int p)] [.int p, .int (q &&& y), .ref 316] h = some o) := by
  obtain ⟨m1, hm2, E, hG⟩ := E_go (pc' := 18) (lv' := [(0, .ref 316), (1, .int q), (2, .int p)]) (st' := [.int p, .int (q &&& y), .ref 316]) (h' := h) 2 rfl E hG
  exact ⟨_, (by omega), hG, E⟩
set_option maxRecDepth 100000 in
set_option maxHeartbeats 4000000 in
theorem yq_co2 {n d : Nat} {h : rk_S} {o : Option Value × rk_S} {q p y : Int32} (hG : yG h) (E : rk_ex n d rm_X8_cost 21 [(0, .ref 316), (1, .int q), (2, .int p)] [.int y] h = some o) :
    (yG h ∧ o = (some (.int y), h)) := by
  obtain ⟨m1, hm2, E, hG⟩ := E_go (pc' := 26) (lv' := [(0, .ref 316), (1, .int q), (2, .int p)]) (st' := [.int y]) (h' := h) 1 rfl E hG
  have ho3 := E_reti rfl E
  exact ⟨hG, ho3⟩
set_option maxRecDepth 100000 in
set_option maxHeartbeats 4000000 in
theorem yq_bi0 {n d : Nat} {h : rk_S} {o : Option Value × rk_S} {q : Int32} (hG : yG h) (E : rk_ex n d rm_X8_bits 0 [(0, .int q)] [] h = some o) :
    (∃ m, m < n ∧ yG h ∧ rk_ex m d rm_X8_bits 4 [(0, .int q), (1, .int (0 : Int32)), (2, .int (0 : Int32))] [] h = some o) := by
  obtain ⟨m1, hm2, E, hG⟩ := E_go (pc' := 4) (lv' := [(2, .int (0 : Int32)), (1, .int (0 : Int32)), (0, .int q)]) (st' := []) (h' := h) 4 rfl E hG
  replace E := E_lv [(0, .int q), (1, .int (0 : Int32)), (2, .int (0 : Int32))] rfl (lvs_c rfl rfl (lvs_c rfl rfl (lvs_c rfl rfl lvs_n))) E
  exact ⟨_, (by omega), hG, E⟩
set_option maxRecDepth 100000 in
set_option maxHeartbeats 4000000 in
theorem yq_bi {n d : Nat} {h : rk_S} {o : Option Value × rk_S} {q w k : Int32} (hG : yG h) (E : rk_ex n d rm_X8_bits 4 [(0, .int q), (1, .int w), (2, .int k)] [] h = some o) :
    (10 ≤ k.toInt ∧ yG h ∧ o = (some (.int w), h)) ∨
    (¬ (10 ≤ k.toInt) ∧ ∃ m, m < n ∧ yG h ∧ rk_ex m d rm_X8_bits 4 [(0, .int q), (1, .int (w + ((q >>> (k &&& 31)) &&& (1 : Int32)))), (2, .int (k + (1 : Int32)))] [] h = some o) := by
  obtain ⟨m1, hm2, E, hG⟩ := E_go (pc' := 7) (lv' := [(0, .int q), (1, .int w), (2, .int k)]) (st' := [.int (10 : Int32), .int k]) (h' := h) 2 rfl E hG
  rcases E_if2 (tg := 24) rfl rfl E with ⟨hc, m3, hm4, E⟩ | ⟨hc, m5, hm6, E⟩
  ·
    have c7 : 10 ≤ k.toInt := hc
    clear hc
    obtain ⟨m8, hm9, E, hG⟩ := E_go (pc' := 25) (lv' := [(0, .int q), (1, .int w), (2, .int k)]) (st' := [.int w]) (h' := h) 1 rfl E hG
    have ho10 := E_reti rfl E
    exact Or.inl ⟨c7, hG, ho10⟩
  ·
    have c11 : ¬ (10 ≤ k.toInt) := hc
    clear hc
    obtain ⟨m12, hm13, E, hG⟩ := E_go (pc' := 4) (lv' := [(2, .int (k + (1 : Int32))), (1, .int (w + ((q >>> (k &&& 31)) &&& (1 : Int32)))), (0, .int q)]) (st' := []) (h' := h) 10 rfl E hG
    replace E := E_lv [(0, .int q), (1, .int (w + ((q >>> (k &&& 31)) &&& (1 : Int32)))), (2, .int (k + (1 : Int32)))] rfl (lvs_c rfl rfl (lvs_c rfl rfl (lvs_c rfl rfl lvs_n))) E
    exact Or.inr ⟨c11, _, (by omega), hG, E⟩
set_option maxRecDepth 100000 in
set_option maxHeartbeats 4000000 in
theorem yq_be0 {n d : Nat} {h : rk_S} {o : Option Value × rk_S} {p : Int32} (hG : yG h) (E : rk_ex n d rm_X8_best 0 [(0, .ref 316), (1, .int p)] [] h = some o) :
    (p.toInt < 0 ∧ yG h ∧ o = (some (.int ((-2) : Int32)), h)) ∨
    (¬ (p.toInt < 0) ∧ 32 < p.toInt ∧ yG h ∧ o = (some (.int ((-2) : Int32)), h)) ∨
    (¬ (p.toInt < 0) ∧ ¬ (32 < p.toInt) ∧ ∃ m, m < n + 1 ∧ yG h ∧ rk_ex m d rm_X8_best 14 [(0, .ref 316), (1, .int p)] [.ref 316] h = some o) := by
  obtain ⟨m1, hm2, E, hG⟩ := E_go (pc' := 4) (lv' := [(0, .ref 316), (1, .int p)]) (st' := [.int (32 : Int32), .int (0 : Int32), .int p]) (h' := h) 3 rfl E hG
  obtain ⟨m3, d4, o5, hm7, E6, F6⟩ := E_call (ar := ([.int p, .int (0 : Int32), .int (32 : Int32)], [])) rfl rfl rfl rfl rfl rfl E
  replace E6 : rk_ex m3 d4 rm_X8_in 0 [(0, .int p), (1, .int (0 : Int32)), (2, .int (32 : Int32))] [] h = some o5 := E6
  obtain ⟨m8, hm9, E6, hG⟩ := E_go (pc' := 2) (lv' := [(0, .int p), (1, .int (0 : Int32)), (2, .int (32 : Int32))]) (st' := [.int (0 : Int32), .int p]) (h' := h) 2 rfl E6 hG
  rcases E_if2 (tg := 14) rfl rfl E6 with ⟨hc, m10, hm11, E6⟩ | ⟨hc, m12, hm13, E6⟩
  ·
    have c14 : p.toInt < 0 := hc
    clear hc
    obtain ⟨m15, hm16, E6, hG⟩ := E_go (pc' := 15) (lv' := [(0, .int p), (1, .int (0 : Int32)), (2, .int (32 : Int32))]) (st' := [.int (0 : Int32)]) (h' := h) 1 rfl E6 hG
    have ho17 := E_reti rfl E6
    subst ho17
    have E : rk_ex m3 d rm_X8_best 7 [(0, .ref 316), (1, .int p)] [.int (0 : Int32)] h = some o := F6
    rcases E_if1 (tg := 13) rfl rfl E with ⟨hc, m18, hm19, E⟩ | ⟨hc, m20, hm21, E⟩
    · exact absurd (show ¬ (0 : Int) = 0 from hc) (by decide)
    ·
      clear hc
      obtain ⟨m22, hm23, E, hG⟩ := E_go (pc' := 12) (lv' := [(0, .ref 316), (1, .int p)]) (st' := [.int ((-2) : Int32)]) (h' := h) 1 rfl E hG
      have ho24 := E_reti rfl E
      exact Or.inl ⟨c14, hG, ho24⟩
  ·
    have c25 : ¬ (p.toInt < 0) := hc
    clear hc
    obtain ⟨m26, hm27, E6, hG⟩ := E_go (pc' := 7) (lv' := [(0, .int p), (1, .int (0 : Int32)), (2, .int (32 : Int32))]) (st' := [.int (32 : Int32), .int p]) (h' := h) 2 rfl E6 hG
    rcases E_if2 (tg := 14) rfl rfl E6 with ⟨hc, m28, hm29, E6⟩ | ⟨hc, m30, hm31, E6⟩
    ·
      have c32 : 32 < p.toInt := hc
      clear hc
      obtain ⟨m33, hm34, E6, hG⟩ := E_go (pc' := 15) (lv' := [(0, .int p), (1, .int (0 : Int32)), (2, .int (32 : Int32))]) (st' := [.int (0 : Int32)]) (h' := h) 1 rfl E6 hG
      have ho35 := E_reti rfl E6
      subst ho35
      have E : rk_ex m3 d rm_X8_best 7 [(0, .ref 316), (1, .int p)] [.int (0 : Int32)] h = some o := F6
      rcases E_if1 (tg := 13) rfl rfl E with ⟨hc, m36, hm37, E⟩ | ⟨hc, m38, hm39, E⟩
      · exact absurd (show ¬ (0 : Int) = 0 from hc) (by decide)
      ·
        clear hc
        obtain ⟨m40, hm41, E, hG⟩ := E_go (pc' := 12) (lv' := [(0, .ref 316), (1, .int p)]) (st' := [.int ((-2) : Int32)]) (h' := h) 1 rfl E hG
        have ho42 := E_reti rfl E
        exact Or.inr (Or.inl ⟨c25, c32, hG, ho42⟩)
    ·
      have c43 : ¬ (32 < p.toInt) := hc
      clear hc
      obtain ⟨m44, hm45, E6, hG⟩ := E_go (pc' := 15) (lv' := [(0, .int p), (1, .int (0 : Int32)), (2, .int (32 : Int32))]) (st' := [.int (1 : Int32)]) (h' := h) 2 rfl E6 hG
      have ho46 := E_reti rfl E6
      subst ho46
      have E : rk_ex m3 d rm_X8_best 7 [(0, .ref 316), (1, .int p)] [.int (1 : Int32)] h = some o := F6
      rcases E_if1 (tg := 13) rfl rfl E with ⟨hc, m47, hm48, E⟩ | ⟨hc, m49, hm50, E⟩
      ·
        clear hc
        obtain ⟨m51, hm52, E, hG⟩ := E_go (pc' := 14) (lv' := [(0, .ref 316), (1, .int p)]) (st' := [.ref 316]) (h' := h) 1 rfl E hG
        exact Or.inr (Or.inr ⟨c25, c43, _, (by omega), hG, E⟩)
      · exact absurd (show ¬ (¬ (1 : Int) = 0) from hc) (by decide)
set_option maxRecDepth 100000 in
set_option maxHeartbeats 4000000 in
theorem yq_be1 {n d : Nat} {h : rk_S} {o : Option Value × rk_S} {p a : Int32} (hG : yG h) (E : rk_ex n d rm_X8_best 17 [(0, .ref 316), (1, .int p)] [.int a] h = some o) :
    (∃ m, m < n ∧ yG h ∧ rk_ex m d rm_X8_best 23 [(0, .ref 316), (1, .int p), (2, .int a), (3, .int (0 : Int32)), (4, .int (0 : Int32))] [] h = some o) := by
  obtain ⟨m1, hm2, E, hG⟩ := E_go (pc' := 23) (lv' := [(4, .int (0 : Int32)), (3, .int (0 : Int32)), (2, .int a), (0, .ref 316), (1, .int p)]) (st' := []) (h' := h) 5 rfl E hG
  replace E := E_lv [(0, .ref 316), (1, .int p), (2, .int a), (3, .int (0 : Int32)), (4, .int (0 : Int32))] rfl (lvs_c rfl rfl (lvs_c rfl rfl (lvs_c rfl rfl (lvs_c rfl rfl (lvs_c rfl rfl lvs_n))))) E
  exact ⟨_, (by omega), hG, E⟩
set_option maxRecDepth 100000 in
set_option maxHeartbeats 4000000 in
theorem yq_be2 {n d : Nat} {h : rk_S} {o : Option Value × rk_S} {p a w k : Int32} (hG : yG h) (E : rk_ex n d rm_X8_best 23 [(0, .ref 316), (1, .int p), (2, .int a), (3, .int w), (4, .int k)] [] h = some o) :
    ((gi h 316 0).toInt ≤ k.toInt ∧ ∃ m, m < n ∧ yG h ∧ rk_ex m d rm_X8_best 76 [(0, .ref 316), (1, .int p), (2, .int a), (3, .int w), (4, .int (0 : Int32)), (5, .int ((-1) : Int32)), (6, .int (0 : Int32)), (7, .int (0 : Int32)), (8, .int (0 : Int32))] [] h = some o) ∨
    (¬ ((gi h 316 0).toInt ≤ k.toInt) ∧ ¬ ((a >>> (k &&& 31)) &&& (1 : Int32)).toInt = 1 ∧ ∃ m, m < n ∧ yG h ∧ rk_ex m d rm_X8_best 23 [(0, .ref 316), (1, .int p), (2, .int a), (3, .int (w ||| (0 : Int32))), (4, .int (k + (1 : Int32)))] [] h = some o) ∨
    (¬ ((gi h 316 0).toInt ≤ k.toInt) ∧ ((a >>> (k &&& 31)) &&& (1 : Int32)).toInt = 1 ∧ ∃ m, m < n + 1 ∧ yG h ∧ rk_ex m d rm_X8_best 44 [(0, .ref 316), (1, .int p), (2, .int a), (3, .int w), (4, .int k)] [.int w, .int w] h = some o) := by
  obtain ⟨m1, hm2, E, hG⟩ := E_go (pc' := 29) (lv' := [(0, .ref 316), (1, .int p), (2, .int a), (3, .int w), (4, .int k)]) (st' := [.int (gi h 316 0), .int k]) (h' := h) 3 rfl E hG
  rcases E_if2 (tg := 67) rfl rfl E with ⟨hc, m3, hm4, E⟩ | ⟨hc, m5, hm6, E⟩
  ·
    have c7 : (gi h 316 0).toInt ≤ k.toInt := hc
    clear hc
    obtain ⟨m8, hm9, E, hG⟩ := E_go (pc' := 76) (lv' := [(6, .int (0 : Int32)), (5, .int ((-1) : Int32)), (4, .int (0 : Int32)), (0, .ref 316), (1, .int p), (2, .int a), (3, .int w)]) (st' := []) (h' := h) 6 rfl E hG
    replace E := E_lv [(0, .ref 316), (1, .int p), (2, .int a), (3, .int w), (4, .int (0 : Int32)), (5, .int ((-1) : Int32)), (6, .int (0 : Int32)), (7, .int (0 : Int32)), (8, .int (0 : Int32))] rfl (lvs_c rfl rfl (lvs_c rfl rfl (lvs_c rfl rfl (lvs_c rfl rfl (lvs_c rfl rfl (lvs_c rfl rfl (lvs_c rfl rfl lvs_n))))))) E
    exact Or.inl ⟨c7, _, (by omega), hG, E⟩
  ·
    have c11 : ¬ ((gi h 316 0).toInt ≤ k.toInt) := hc
    clear hc
    obtain ⟨m12, hm13, E, hG⟩ := E_go (pc' := 40) (lv' := [(0, .ref 316), (1, .int p), (2, .int a), (3, .int w), (4, .int k)]) (st' := [.int (1 : Int32), .int ((a >>> (k &&& 31)) &&& (1 : Int32)), .int w]) (h' := h) 7 rfl E hG
    rcases E_if2 (tg := 58) rfl rfl E with ⟨hc, m14, hm15, E⟩ | ⟨hc, m16, hm17, E⟩
    ·
      have c18 : ¬ ((a >>> (k &&& 31)) &&& (1 : Int32)).toInt = 1 := hc
      clear hc
      obtain ⟨m19, hm20, E, hG⟩ := E_go (pc' := 23) (lv' := [(4, .int (k + (1 : Int32))), (3, .int (w ||| (0 : Int32))), (0, .ref 316), (1, .int p), (2, .int a)]) (st' := []) (h' := h) 5 rfl E hG
      replace E := E_lv [(0, .ref 316), (1, .int p), (2, .int a), (3, .int (w ||| (0 : Int32))), (4, .int (k + (1 : Int32)))] rfl (lvs_c rfl rfl (lvs_c rfl rfl (lvs_c rfl rfl (lvs_c rfl rfl (lvs_c rfl rfl lvs_n))))) E
      exact Or.inr (Or.inl ⟨c11, c18, _, (by omega), hG, E⟩)
    ·
      have c22 : ((a >>> (k &&& 31)) &&& (1 : Int32)).toInt = 1 := Decidable.not_not.mp hc
      clear hc
      obtain ⟨m23, hm24, E, hG⟩ := E_go (pc' := 44) (lv' := [(0, .ref 316), (1, .int p), (2, .int a), (3, .int w), (4, .int k)]) (st' := [.int w, .int w]) (h' := h) 1 rfl E hG
      exact Or.inr (Or.inr ⟨c11, c22, _, (by omega), hG, E⟩)
set_option maxRecDepth 100000 in
set_option maxHeartbeats 4000000 in
theorem yq_be3 {n d : Nat} {h : rk_S} {o : Option Value × rk_S} {p a w k y : Int32} (hG : yG h) (E : rk_ex n d rm_X8_best 47 [(0, .ref 316), (1, .int p), (2, .int a), (3, .int w), (4, .int k)] [.int y, .int w] h = some o) :
    (5 ≤ y.toInt ∧ ∃ m, m < n ∧ yG h ∧ rk_ex m d rm_X8_best 23 [(0, .ref 316), (1, .int p), (2, .int a), (3, .int (w ||| (0 : Int32))), (4, .int (k + (1 : Int32)))] [] h = some o) ∨
    (¬ (5 ≤ y.toInt) ∧ ∃ m, m < n ∧ yG h ∧ rk_ex m d rm_X8_best 23 [(0, .ref 316), (1, .int p), (2, .int a), (3, .int (w ||| ((1 : Int32) <<< (k &&& 31)))), (4, .int (k + (1 : Int32)))] [] h = some o) := by
  obtain ⟨m1, hm2, E, hG⟩ := E_go (pc' := 48) (lv' := [(0, .ref 316), (1, .int p), (2, .int a), (3, .int w), (4, .int k)]) (st' := [.int (5 : Int32), .int y, .int w]) (h' := h) 1 rfl E hG
  rcases E_if2 (tg := 58) rfl rfl E with ⟨hc, m3, hm4, E⟩ | ⟨hc, m5, hm6, E⟩
  ·
    have c7 : 5 ≤ y.toInt := hc
    clear hc
    obtain ⟨m8, hm9, E, hG⟩ := E_go (pc' := 23) (lv' := [(4, .int (k + (1 : Int32))), (3, .int (w ||| (0 : Int32))), (0, .ref 316), (1, .int p), (2, .int a)]) (st' := []) (h' := h) 5 rfl E hG
    replace E := E_lv [(0, .ref 316), (1, .int p), (2, .int a), (3, .int (w ||| (0 : Int32))), (4, .int (k + (1 : Int32)))] rfl (lvs_c rfl rfl (lvs_c rfl rfl (lvs_c rfl rfl (lvs_c rfl rfl (lvs_c rfl rfl lvs_n))))) E
    exact Or.inl ⟨c7, _, (by omega), hG, E⟩
  ·
    have c11 : ¬ (5 ≤ y.toInt) := hc
    clear hc
    obtain ⟨m12, hm13, E, hG⟩ := E_go (pc' := 23) (lv' := [(4, .int (k + (1 : Int32))), (3, .int (w ||| ((1 : Int32) <<< (k &&& 31)))), (0, .ref 316), (1, .int p), (2, .int a)]) (st' := []) (h' := h) 8 rfl E hG
    replace E := E_lv [(0, .ref 316), (1, .int p), (2, .int a), (3, .int (w ||| ((1 : Int32) <<< (k &&& 31)))), (4, .int (k + (1 : Int32)))] rfl (lvs_c rfl rfl (lvs_c rfl rfl (lvs_c rfl rfl (lvs_c rfl rfl (lvs_c rfl rfl lvs_n))))) E
    exact Or.inr ⟨c11, _, (by omega), hG, E⟩
set_option maxRecDepth 100000 in
set_option maxHeartbeats 4000000 in
theorem yq_be4 {n d : Nat} {h : rk_S} {o : Option Value × rk_S} {p a w b l q u t : Int32} (hG : yG h) (E : rk_ex n d rm_X8_best 76 [(0, .ref 316), (1, .int p), (2, .int a), (3, .int w), (4, .int b), (5, .int l), (6, .int q), (7, .int u), (8, .int t)] [] h = some o) :
    (w.toInt < q.toInt ∧ yG h ∧ o = (some (.int b), h)) ∨
    (¬ (w.toInt < q.toInt) ∧ ¬ (q &&& (w ^^^ ((-1) : Int32))).toInt = 0 ∧ ∃ m, m < n ∧ yG h ∧ rk_ex m d rm_X8_best 76 [(0, .ref 316), (1, .int p), (2, .int a), (3, .int w), (4, .int b), (5, .int l), (6, .int (q + (1 : Int32))), (7, .int u), (8, .int t)] [] h = some o) ∨
    (¬ (w.toInt < q.toInt) ∧ (q &&& (w ^^^ ((-1) : Int32))).toInt = 0 ∧ ∃ m, m < n + 1 ∧ yG h ∧ rk_ex m d rm_X8_best 95 [(0, .ref 316), (1, .int p), (2, .int a), (3, .int w), (4, .int b), (5, .int l), (6, .int q), (7, .int u), (8, .int t)] [.int p, .int q, .ref 316] h = some o) := by
  obtain ⟨m1, hm2, E, hG⟩ := E_go (pc' := 79) (lv' := [(0, .ref 316), (1, .int p), (2, .int a), (3, .int w), (4, .int b), (5, .int l), (6, .int q), (7, .int u), (8, .int t)]) (st' := [.int w, .int q]) (h' := h) 2 rfl E hG
  rcases E_if2 (tg := 158) rfl rfl E with ⟨hc, m3, hm4, E⟩ | ⟨hc, m5, hm6, E⟩
  ·
    have c7 : w.toInt < q.toInt := hc
    clear hc
    obtain ⟨m8, hm9, E, hG⟩ := E_go (pc' := 160) (lv' := [(0, .ref 316), (1, .int p), (2, .int a), (3, .int w), (4, .int b), (5, .int l), (6, .int q), (7, .int u), (8, .int t)]) (st' := [.int b]) (h' := h) 1 rfl E hG
    have ho10 := E_reti rfl E
    exact Or.inl ⟨c7, hG, ho10⟩
  ·
    have c11 : ¬ (w.toInt < q.toInt) := hc
    clear hc
    obtain ⟨m12, hm13, E, hG⟩ := E_go (pc' := 88) (lv' := [(0, .ref 316), (1, .int p), (2, .int a), (3, .int w), (4, .int b), (5, .int l), (6, .int q), (7, .int u), (8, .int t)]) (st' := [.int (q &&& (w ^^^ ((-1) : Int32)))]) (h' := h) 5 rfl E hG
    rcases E_if1 (tg := 152) rfl rfl E with ⟨hc, m14, hm15, E⟩ | ⟨hc, m16, hm17, E⟩
    ·
      have c18 : ¬ (q &&& (w ^^^ ((-1) : Int32))).toInt = 0 := hc
      clear hc
      obtain ⟨m19, hm20, E, hG⟩ := E_go (pc' := 76) (lv' := [(6, .int (q + (1 : Int32))), (0, .ref 316), (1, .int p), (2, .int a), (3, .int w), (4, .int b), (5, .int l), (7, .int u), (8, .int t)]) (st' := []) (h' := h) 2 rfl E hG
      replace E := E_lv [(0, .ref 316), (1, .int p), (2, .int a), (3, .int w), (4, .int b), (5, .int l), (6, .int (q + (1 : Int32))), (7, .int u), (8, .int t)] rfl (lvs_c rfl rfl (lvs_c rfl rfl (lvs_c rfl rfl (lvs_c rfl rfl (lvs_c rfl rfl (lvs_c rfl rfl (lvs_c rfl rfl (lvs_c rfl rfl (lvs_c rfl rfl lvs_n))))))))) E
      exact Or.inr (Or.inl ⟨c11, c18, _, (by omega), hG, E⟩)
    ·
      have c22 : (q &&& (w ^^^ ((-1) : Int32))).toInt = 0 := Decidable.not_not.mp hc
      clear hc
      obtain ⟨m23, hm24, E, hG⟩ := E_go (pc' := 95) (lv' := [(0, .ref 316), (1, .int p), (2, .int a), (3, .int w), (4, .int b), (5, .int l), (6, .int q), (7, .int u), (8, .int t)]) (st' := [.int p, .int q, .ref 316]) (h' := h) 3 rfl E hG
      exact Or.inr (Or.inr ⟨c11, c22, _, (by omega), hG, E⟩)
set_option maxRecDepth 100000 in
set_option maxHeartbeats 4000000 in
theorem yq_be5 {n d : Nat} {h : rk_S} {o : Option Value × rk_S} {p a w b l q c u t : Int32} (hG : yG h) (E : rk_ex n d rm_X8_best 98 [(0, .ref 316), (1, .int p), (2, .int a), (3, .int w), (4, .int b), (5, .int l), (6, .int q), (7, .int u), (8, .int t)] [.int c] h = some o) :
    (c.toInt < l.toInt ∧ l.toInt < 0 ∧ ∃ m, m < n ∧ yG h ∧ rk_ex m d rm_X8_best 76 [(0, .ref 316), (1, .int p), (2, .int a), (3, .int w), (4, .int q), (5, .int c), (6, .int (q + (1 : Int32))), (7, .int c), (8, .int (1 : Int32))] [] h = some o) ∨
    (c.toInt < l.toInt ∧ ¬ (l.toInt < 0) ∧ ∃ m, m < n ∧ yG h ∧ rk_ex m d rm_X8_best 76 [(0, .ref 316), (1, .int p), (2, .int a), (3, .int w), (4, .int q), (5, .int c), (6, .int (q + (1 : Int32))), (7, .int c), (8, .int (1 : Int32))] [] h = some o) ∨
    (¬ (c.toInt < l.toInt) ∧ ¬ c.toInt = l.toInt ∧ l.toInt < 0 ∧ ∃ m, m < n ∧ yG h ∧ rk_ex m d rm_X8_best 76 [(0, .ref 316), (1, .int p), (2, .int a), (3, .int w), (4, .int q), (5, .int c), (6, .int (q + (1 : Int32))), (7, .int c), (8, .int (0 : Int32))] [] h = some o) ∨
    (¬ (c.toInt < l.toInt) ∧ ¬ c.toInt = l.toInt ∧ ¬ (l.toInt < 0) ∧ ∃ m, m < n ∧ yG h ∧ rk_ex m d rm_X8_best 76 [(0, .ref 316), (1, .int p), (2, .int a), (3, .int w), (4, .int b), (5, .int l), (6, .int (q + (1 : Int32))), (7, .int c), (8, .int (0 : Int32))] [] h = some o) ∨
    (¬ (c.toInt < l.toInt) ∧ c.toInt = l.toInt ∧ ∃ m, m < n + 1 ∧ yG h ∧ rk_ex m d rm_X8_best 116 [(7, .int c), (0, .ref 316), (1, .int p), (2, .int a), (3, .int w), (4, .int b), (5, .int l), (6, .int q), (8, .int t)] [.int q] h = some o) := by
  obtain ⟨m1, hm2, E, hG⟩ := E_go (pc' := 104) (lv' := [(7, .int c), (0, .ref 316), (1, .int p), (2, .int a), (3, .int w), (4, .int b), (5, .int l), (6, .int q), (8, .int t)]) (st' := [.int l, .int c]) (h' := h) 3 rfl E hG
  rcases E_if2 (tg := 127) rfl rfl E with ⟨hc, m3, hm4, E⟩ | ⟨hc, m5, hm6, E⟩
  ·
    have c7 : c.toInt < l.toInt := hc
    clear hc
    obtain ⟨m8, hm9, E, hG⟩ := E_go (pc' := 136) (lv' := [(8, .int (1 : Int32)), (7, .int c), (0, .ref 316), (1, .int p), (2, .int a), (3, .int w), (4, .int b), (5, .int l), (6, .int q)]) (st' := [.int l]) (h' := h) 4 rfl E hG
    rcases E_if1 (tg := 144) rfl rfl E with ⟨hc, m10, hm11, E⟩ | ⟨hc, m12, hm13, E⟩
    ·
      have c14 : l.toInt < 0 := hc
      clear hc
      obtain ⟨m15, hm16, E, hG⟩ := E_go (pc' := 76) (lv' := [(6, .int (q + (1 : Int32))), (4, .int q), (5, .int c), (8, .int (1 : Int32)), (7, .int c), (0, .ref 316), (1, .int p), (2, .int a), (3, .int w)]) (st' := []) (h' := h) 6 rfl E hG
      replace E := E_lv [(0, .ref 316), (1, .int p), (2, .int a), (3, .int w), (4, .int q), (5, .int c), (6, .int (q + (1 : Int32))), (7, .int c), (8, .int (1 : Int32))] rfl (lvs_c rfl rfl (lvs_c rfl rfl (lvs_c rfl rfl (lvs_c rfl rfl (lvs_c rfl rfl (lvs_c rfl rfl (lvs_c rfl rfl (lvs_c rfl rfl (lvs_c rfl rfl lvs_n))))))))) E
      exact Or.inl ⟨c7, c14, _, (by omega), hG, E⟩
    ·
      have c18 : ¬ (l.toInt < 0) := hc
      clear hc
      obtain ⟨m19, hm20, E, hG⟩ := E_go (pc' := 141) (lv' := [(8, .int (1 : Int32)), (7, .int c), (0, .ref 316), (1, .int p), (2, .int a), (3, .int w), (4, .int b), (5, .int l), (6, .int q)]) (st' := [.int (1 : Int32)]) (h' := h) 1 rfl E hG
      rcases E_if1 (tg := 152) rfl rfl E with ⟨hc, m21, hm22, E⟩ | ⟨hc, m23, hm24, E⟩
      · exact absurd (show (1 : Int) = 0 from hc) (by decide)
      ·
        clear hc
        obtain ⟨m25, hm26, E, hG⟩ := E_go (pc' := 76) (lv' := [(6, .int (q + (1 : Int32))), (4, .int q), (5, .int c), (8, .int (1 : Int32)), (7, .int c), (0, .ref 316), (1, .int p), (2, .int a), (3, .int w)]) (st' := []) (h' := h) 6 rfl E hG
        replace E := E_lv [(0, .ref 316), (1, .int p), (2, .int a), (3, .int w), (4, .int q), (5, .int c), (6, .int (q + (1 : Int32))), (7, .int c), (8, .int (1 : Int32))] rfl (lvs_c rfl rfl (lvs_c rfl rfl (lvs_c rfl rfl (lvs_c rfl rfl (lvs_c rfl rfl (lvs_c rfl rfl (lvs_c rfl rfl (lvs_c rfl rfl (lvs_c rfl rfl lvs_n))))))))) E
        exact Or.inr (Or.inl ⟨c7, c18, _, (by omega), hG, E⟩)
  ·
    have c28 : ¬ (c.toInt < l.toInt) := hc
    clear hc
    obtain ⟨m29, hm30, E, hG⟩ := E_go (pc' := 111) (lv' := [(7, .int c), (0, .ref 316), (1, .int p), (2, .int a), (3, .int w), (4, .int b), (5, .int l), (6, .int q), (8, .int t)]) (st' := [.int l, .int c]) (h' := h) 2 rfl E hG
    rcases E_if2 (tg := 131) rfl rfl E with ⟨hc, m31, hm32, E⟩ | ⟨hc, m33, hm34, E⟩
    ·
      have c35 : ¬ c.toInt = l.toInt := hc
      clear hc
      obtain ⟨m36, hm37, E, hG⟩ := E_go (pc' := 136) (lv' := [(8, .int (0 : Int32)), (7, .int c), (0, .ref 316), (1, .int p), (2, .int a), (3, .int w), (4, .int b), (5, .int l), (6, .int q)]) (st' := [.int l]) (h' := h) 3 rfl E hG
      rcases E_if1 (tg := 144) rfl rfl E with ⟨hc, m38, hm39, E⟩ | ⟨hc, m40, hm41, E⟩
      ·
        have c42 : l.toInt < 0 := hc
        clear hc
        obtain ⟨m43, hm44, E, hG⟩ := E_go (pc' := 76) (lv' := [(6, .int (q + (1 : Int32))), (4, .int q), (5, .int c), (8, .int (0 : Int32)), (7, .int c), (0, .ref 316), (1, .int p), (2, .int a), (3, .int w)]) (st' := []) (h' := h) 6 rfl E hG
        replace E := E_lv [(0, .ref 316), (1, .int p), (2, .int a), (3, .int w), (4, .int q), (5, .int c), (6, .int (q + (1 : Int32))), (7, .int c), (8, .int (0 : Int32))] rfl (lvs_c rfl rfl (lvs_c rfl rfl (lvs_c rfl rfl (lvs_c rfl rfl (lvs_c rfl rfl (lvs_c rfl rfl (lvs_c rfl rfl (lvs_c rfl rfl (lvs_c rfl rfl lvs_n))))))))) E
        exact Or.inr (Or.inr (Or.inl ⟨c28, c35, c42, _, (by omega), hG, E⟩))
      ·
        have c46 : ¬ (l.toInt < 0) := hc
        clear hc
        obtain ⟨m47, hm48, E, hG⟩ := E_go (pc' := 141) (lv' := [(8, .int (0 : Int32)), (7, .int c), (0, .ref 316), (1, .int p), (2, .int a), (3, .int w), (4, .int b), (5, .int l), (6, .int q)]) (st' := [.int (0 : Int32)]) (h' := h) 1 rfl E hG
        rcases E_if1 (tg := 152) rfl rfl E with ⟨hc, m49, hm50, E⟩ | ⟨hc, m51, hm52, E⟩
        ·
          clear hc
          obtain ⟨m53, hm54, E, hG⟩ := E_go (pc' := 76) (lv' := [(6, .int (q + (1 : Int32))), (8, .int (0 : Int32)), (7, .int c), (0, .ref 316), (1, .int p), (2, .int a), (3, .int w), (4, .int b), (5, .int l)]) (st' := []) (h' := h) 2 rfl E hG
          replace E := E_lv [(0, .ref 316), (1, .int p), (2, .int a), (3, .int w), (4, .int b), (5, .int l), (6, .int (q + (1 : Int32))), (7, .int c), (8, .int (0 : Int32))] rfl (lvs_c rfl rfl (lvs_c rfl rfl (lvs_c rfl rfl (lvs_c rfl rfl (lvs_c rfl rfl (lvs_c rfl rfl (lvs_c rfl rfl (lvs_c rfl rfl (lvs_c rfl rfl lvs_n))))))))) E
          exact Or.inr (Or.inr (Or.inr (Or.inl ⟨c28, c35, c46, _, (by omega), hG, E⟩)))
        · exact absurd (show ¬ ((0 : Int) = 0) from hc) (by decide)
    ·
      have c56 : c.toInt = l.toInt := Decidable.not_not.mp hc
      clear hc
      obtain ⟨m57, hm58, E, hG⟩ := E_go (pc' := 116) (lv' := [(7, .int c), (0, .ref 316), (1, .int p), (2, .int a), (3, .int w), (4, .int b), (5, .int l), (6, .int q), (8, .int t)]) (st' := [.int q]) (h' := h) 1 rfl E hG
      exact Or.inr (Or.inr (Or.inr (Or.inr ⟨c28, c56, _, (by omega), hG, E⟩)))
set_option maxRecDepth 100000 in
set_option maxHeartbeats 4000000 in
theorem yq_be6 {n d : Nat} {h : rk_S} {o : Option Value × rk_S} {p a w b l q c y t : Int32} (hG : yG h) (E : rk_ex n d rm_X8_best 119 [(7, .int c), (0, .ref 316), (1, .int p), (2, .int a), (3, .int w), (4, .int b), (5, .int l), (6, .int q), (8, .int t)] [.int y] h = some o) :
    (∃ m, m < n + 1 ∧ yG h ∧ rk_ex m d rm_X8_best 121 [(7, .int c), (0, .ref 316), (1, .int p), (2, .int a), (3, .int w), (4, .int b), (5, .int l), (6, .int q), (8, .int t)] [.int b, .int y] h = some o) := by
  obtain ⟨m1, hm2, E, hG⟩ := E_go (pc' := 121) (lv' := [(7, .int c), (0, .ref 316), (1, .int p), (2, .int a), (3, .int w), (4, .int b), (5, .int l), (6, .int q), (8, .int t)]) (st' := [.int b, .int y]) (h' := h) 1 rfl E hG
  exact ⟨_, (by omega), hG, E⟩
set_option maxRecDepth 100000 in
set_option maxHeartbeats 4000000 in
theorem yq_be7 {n d : Nat} {h : rk_S} {o : Option Value × rk_S} {p a w b l q c x y t : Int32} (hG : yG h) (E : rk_ex n d rm_X8_best 124 [(7, .int c), (0, .ref 316), (1, .int p), (2, .int a), (3, .int w), (4, .int b), (5, .int l), (6, .int q), (8, .int t)] [.int x, .int y] h = some o) :
    (x.toInt ≤ y.toInt ∧ l.toInt < 0 ∧ ∃ m, m < n ∧ yG h ∧ rk_ex m d rm_X8_best 76 [(0, .ref 316), (1, .int p), (2, .int a), (3, .int w), (4, .int q), (5, .int c), (6, .int (q + (1 : Int32))), (7, .int c), (8, .int (0 : Int32))] [] h = some o) ∨
    (x.toInt ≤ y.toInt ∧ ¬ (l.toInt < 0) ∧ ∃ m, m < n ∧ yG h ∧ rk_ex m d rm_X8_best 76 [(0, .ref 316), (1, .int p), (2, .int a), (3, .int w), (4, .int b), (5, .int l), (6, .int (q + (1 : Int32))), (7, .int c), (8, .int (0 : Int32))] [] h = some o) ∨
    (¬ (x.toInt ≤ y.toInt) ∧ l.toInt < 0 ∧ ∃ m, m < n ∧ yG h ∧ rk_ex m d rm_X8_best 76 [(0, .ref 316), (1, .int p), (2, .int a), (3, .int w), (4, .int q), (5, .int c), (6, .int (q + (1 : Int32))), (7, .int c), (8, .int (1 : Int32))] [] h = some o) ∨
    (¬ (x.toInt ≤ y.toInt) ∧ ¬ (l.toInt < 0) ∧ ∃ m, m < n ∧ yG h ∧ rk_ex m d rm_X8_best 76 [(0, .ref 316), (1, .int p), (2, .int a), (3, .int w), (4, .int q), (5, .int c), (6, .int (q + (1 : Int32))), (7, .int c), (8, .int (1 : Int32))] [] h = some o) := by
  rcases E_if2 (tg := 131) rfl rfl E with ⟨hc, m1, hm2, E⟩ | ⟨hc, m3, hm4, E⟩
  ·
    have c5 : x.toInt ≤ y.toInt := hc
    clear hc
    obtain ⟨m6, hm7, E, hG⟩ := E_go (pc' := 136) (lv' := [(8, .int (0 : Int32)), (7, .int c), (0, .ref 316), (1, .int p), (2, .int a), (3, .int w), (4, .int b), (5, .int l), (6, .int q)]) (st' := [.int l]) (h' := h) 3 rfl E hG
    rcases E_if1 (tg := 144) rfl rfl E with ⟨hc, m8, hm9, E⟩ | ⟨hc, m10, hm11, E⟩
    ·
      have c12 : l.toInt < 0 := hc
      clear hc
      obtain ⟨m13, hm14, E, hG⟩ := E_go (pc' := 76) (lv' := [(6, .int (q + (1 : Int32))), (4, .int q), (5, .int c), (8, .int (0 : Int32)), (7, .int c), (0, .ref 316), (1, .int p), (2, .int a), (3, .int w)]) (st' := []) (h' := h) 6 rfl E hG
      replace E := E_lv [(0, .ref 316), (1, .int p), (2, .int a), (3, .int w), (4, .int q), (5, .int c), (6, .int (q + (1 : Int32))), (7, .int c), (8, .int (0 : Int32))] rfl (lvs_c rfl rfl (lvs_c rfl rfl (lvs_c rfl rfl (lvs_c rfl rfl (lvs_c rfl rfl (lvs_c rfl rfl (lvs_c rfl rfl (lvs_c rfl rfl (lvs_c rfl rfl lvs_n))))))))) E
      exact Or.inl ⟨c5, c12, _, (by omega), hG, E⟩
    ·
      have c16 : ¬ (l.toInt < 0) := hc
      clear hc
      obtain ⟨m17, hm18, E, hG⟩ := E_go (pc' := 141) (lv' := [(8, .int (0 : Int32)), (7, .int c), (0, .ref 316), (1, .int p), (2, .int a), (3, .int w), (4, .int b), (5, .int l), (6, .int q)]) (st' := [.int (0 : Int32)]) (h' := h) 1 rfl E hG
      rcases E_if1 (tg := 152) rfl rfl E with ⟨hc, m19, hm20, E⟩ | ⟨hc, m21, hm22, E⟩
      ·
        clear hc
        obtain ⟨m23, hm24, E, hG⟩ := E_go (pc' := 76) (lv' := [(6, .int (q + (1 : Int32))), (8, .int (0 : Int32)), (7, .int c), (0, .ref 316), (1, .int p), (2, .int a), (3, .int w), (4, .int b), (5, .int l)]) (st' := []) (h' := h) 2 rfl E hG
        replace E := E_lv [(0, .ref 316), (1, .int p), (2, .int a), (3, .int w), (4, .int b), (5, .int l), (6, .int (q + (1 : Int32))), (7, .int c), (8, .int (0 : Int32))] rfl (lvs_c rfl rfl (lvs_c rfl rfl (lvs_c rfl rfl (lvs_c rfl rfl (lvs_c rfl rfl (lvs_c rfl rfl (lvs_c rfl rfl (lvs_c rfl rfl (lvs_c rfl rfl lvs_n))))))))) E
        exact Or.inr (Or.inl ⟨c5, c16, _, (by omega), hG, E⟩)
      · exact absurd (show ¬ ((0 : Int) = 0) from hc) (by decide)
  ·
    have c26 : ¬ (x.toInt ≤ y.toInt) := hc
    clear hc
    obtain ⟨m27, hm28, E, hG⟩ := E_go (pc' := 136) (lv' := [(8, .int (1 : Int32)), (7, .int c), (0, .ref 316), (1, .int p), (2, .int a), (3, .int w), (4, .int b), (5, .int l), (6, .int q)]) (st' := [.int l]) (h' := h) 4 rfl E hG
    rcases E_if1 (tg := 144) rfl rfl E with ⟨hc, m29, hm30, E⟩ | ⟨hc, m31, hm32, E⟩
    ·
      have c33 : l.toInt < 0 := hc
      clear hc
      obtain ⟨m34, hm35, E, hG⟩ := E_go (pc' := 76) (lv' := [(6, .int (q + (1 : Int32))), (4, .int q), (5, .int c), (8, .int (1 : Int32)), (7, .int c), (0, .ref 316), (1, .int p), (2, .int a), (3, .int w)]) (st' := []) (h' := h) 6 rfl E hG
      replace E := E_lv [(0, .ref 316), (1, .int p), (2, .int a), (3, .int w), (4, .int q), (5, .int c), (6, .int (q + (1 : Int32))), (7, .int c), (8, .int (1 : Int32))] rfl (lvs_c rfl rfl (lvs_c rfl rfl (lvs_c rfl rfl (lvs_c rfl rfl (lvs_c rfl rfl (lvs_c rfl rfl (lvs_c rfl rfl (lvs_c rfl rfl (lvs_c rfl rfl lvs_n))))))))) E
      exact Or.inr (Or.inr (Or.inl ⟨c26, c33, _, (by omega), hG, E⟩))
    ·
      have c37 : ¬ (l.toInt < 0) := hc
      clear hc
      obtain ⟨m38, hm39, E, hG⟩ := E_go (pc' := 141) (lv' := [(8, .int (1 : Int32)), (7, .int c), (0, .ref 316), (1, .int p), (2, .int a), (3, .int w), (4, .int b), (5, .int l), (6, .int q)]) (st' := [.int (1 : Int32)]) (h' := h) 1 rfl E hG
      rcases E_if1 (tg := 152) rfl rfl E with ⟨hc, m40, hm41, E⟩ | ⟨hc, m42, hm43, E⟩
      · exact absurd (show (1 : Int) = 0 from hc) (by decide)
      ·
        clear hc
        obtain ⟨m44, hm45, E, hG⟩ := E_go (pc' := 76) (lv' := [(6, .int (q + (1 : Int32))), (4, .int q), (5, .int c), (8, .int (1 : Int32)), (7, .int c), (0, .ref 316), (1, .int p), (2, .int a), (3, .int w)]) (st' := []) (h' := h) 6 rfl E hG
        replace E := E_lv [(0, .ref 316), (1, .int p), (2, .int a), (3, .int w), (4, .int q), (5, .int c), (6, .int (q + (1 : Int32))), (7, .int c), (8, .int (1 : Int32))] rfl (lvs_c rfl rfl (lvs_c rfl rfl (lvs_c rfl rfl (lvs_c rfl rfl (lvs_c rfl rfl (lvs_c rfl rfl (lvs_c rfl rfl (lvs_c rfl rfl (lvs_c rfl rfl lvs_n))))))))) E
        exact Or.inr (Or.inr (Or.inr ⟨c26, c37, _, (by omega), hG, E⟩))
