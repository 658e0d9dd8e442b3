/-! pieces of the class's run (laid by wip/gen/y10r.py) -/
set_option maxRecDepth 100000 in
set_option maxHeartbeats 4000000 in
theorem yx_ru {n d : Nat} {h : rk_S} {o : Option Value × rk_S} {r a b c : Int32} (hG : yG h) (E : rk_ex n d rm_X7_run 0 [(0, .ref 1), (1, .int r), (2, .int a), (3, .int b), (4, .int c)] [] h = some o) :
    (r.toInt < 0 ∧ yG h ∧ o = (some (.int ((-1) : Int32)), h)) ∨
    (¬ (r.toInt < 0) ∧ (gi h 2 5).toInt ≤ r.toInt ∧ yG h ∧ o = (some (.int ((-1) : Int32)), h)) ∨
    (¬ (r.toInt < 0) ∧ ¬ ((gi h 2 5).toInt ≤ r.toInt) ∧ ∃ m, m < n + 1 ∧ yG h ∧ rk_ex m d rm_X7_run 26 [(0, .ref 1), (1, .int r), (2, .int a), (3, .int b), (4, .int c)] [.int (gi h 1 8), .int c, .int b, .int a, .int r, .ref 118] h = some o) := by
  obtain ⟨m1, hm2, E, hG⟩ := E_go (pc' := 5) (lv' := [(0, .ref 1), (1, .int r), (2, .int a), (3, .int b), (4, .int c)]) (st' := [.int r, .ref 2]) (h' := h) 3 rfl E hG
  obtain ⟨m3, d4, o5, hm7, E6, F6⟩ := E_call (ar := ([.ref 2, .int r], [])) rfl rfl rfl rfl rfl rfl E
  replace E6 : rk_ex m3 d4 rm_X3_hasRoutine 0 [(0, .ref 2), (1, .int r)] [] h = some o5 := E6
  obtain ⟨m8, hm9, E6, hG⟩ := E_go (pc' := 1) (lv' := [(0, .ref 2), (1, .int r)]) (st' := [.int r]) (h' := h) 1 rfl E6 hG
  rcases E_if1 (tg := 16) rfl rfl E6 with ⟨hc, m10, hm11, E6⟩ | ⟨hc, m12, hm13, E6⟩
  ·
    have c14 : r.toInt < 0 := hc
    clear hc
    obtain ⟨m15, hm16, E6, hG⟩ := E_go (pc' := 17) (lv' := [(0, .ref 2), (1, .int r)]) (st' := [.int (0 : Int32)]) (h' := h) 1 rfl E6 hG
    have ho17 := E_reti rfl E6
    subst ho17
    have E : rk_ex m3 d rm_X7_run 8 [(0, .ref 1), (1, .int r), (2, .int a), (3, .int b), (4, .int c)] [.int (0 : Int32)] h = some o := F6
    rcases E_if1 (tg := 13) rfl rfl E with ⟨hc, m18, hm19, E⟩ | ⟨hc, m20, hm21, E⟩
    · exact absurd (show ¬ (0 : Int) = 0 from hc) (by decide)
    ·
      clear hc
      obtain ⟨m22, hm23, E, hG⟩ := E_go (pc' := 12) (lv' := [(0, .ref 1), (1, .int r), (2, .int a), (3, .int b), (4, .int c)]) (st' := [.int ((-1) : Int32)]) (h' := h) 1 rfl E hG
      have ho24 := E_reti rfl E
      exact Or.inl ⟨c14, hG, ho24⟩
  ·
    have c25 : ¬ (r.toInt < 0) := hc
    clear hc
    obtain ⟨m26, hm27, E6, hG⟩ := E_go (pc' := 9) (lv' := [(0, .ref 2), (1, .int r)]) (st' := [.int (gi h 2 5), .int r]) (h' := h) 3 rfl E6 hG
    rcases E_if2 (tg := 16) rfl rfl E6 with ⟨hc, m28, hm29, E6⟩ | ⟨hc, m30, hm31, E6⟩
    ·
      have c32 : (gi h 2 5).toInt ≤ r.toInt := hc
      clear hc
      obtain ⟨m33, hm34, E6, hG⟩ := E_go (pc' := 17) (lv' := [(0, .ref 2), (1, .int r)]) (st' := [.int (0 : Int32)]) (h' := h) 1 rfl E6 hG
      have ho35 := E_reti rfl E6
      subst ho35
      have E : rk_ex m3 d rm_X7_run 8 [(0, .ref 1), (1, .int r), (2, .int a), (3, .int b), (4, .int c)] [.int (0 : Int32)] h = some o := F6
      rcases E_if1 (tg := 13) rfl rfl E with ⟨hc, m36, hm37, E⟩ | ⟨hc, m38, hm39, E⟩
      · exact absurd (show ¬ (0 : Int) = 0 from hc) (by decide)
      ·
        clear hc
        obtain ⟨m40, hm41, E, hG⟩ := E_go (pc' := 12) (lv' := [(0, .ref 1), (1, .int r), (2, .int a), (3, .int b), (4, .int c)]) (st' := [.int ((-1) : Int32)]) (h' := h) 1 rfl E hG
        have ho42 := E_reti rfl E
        exact Or.inr (Or.inl ⟨c25, c32, hG, ho42⟩)
    ·
      have c43 : ¬ ((gi h 2 5).toInt ≤ r.toInt) := hc
      clear hc
      obtain ⟨m44, hm45, E6, hG⟩ := E_go (pc' := 17) (lv' := [(0, .ref 2), (1, .int r)]) (st' := [.int (1 : Int32)]) (h' := h) 2 rfl E6 hG
      have ho46 := E_reti rfl E6
      subst ho46
      have E : rk_ex m3 d rm_X7_run 8 [(0, .ref 1), (1, .int r), (2, .int a), (3, .int b), (4, .int c)] [.int (1 : Int32)] h = some o := F6
      rcases E_if1 (tg := 13) rfl rfl E with ⟨hc, m47, hm48, E⟩ | ⟨hc, m49, hm50, E⟩
      ·
        clear hc
        obtain ⟨m51, hm52, E, hG⟩ := E_go (pc' := 26) (lv' := [(0, .ref 1), (1, .int r), (2, .int a), (3, .int b), (4, .int c)]) (st' := [.int (gi h 1 8), .int c, .int b, .int a, .int r, .ref 118]) (h' := h) 8 rfl E hG
        exact Or.inr (Or.inr ⟨c25, c43, _, (by omega), hG, E⟩)
      · exact absurd (show ¬ (¬ (1 : Int) = 0) from hc) (by decide)
set_option maxRecDepth 100000 in
set_option maxHeartbeats 4000000 in
theorem yx_ru1 {n d : Nat} {h : rk_S} {o : Option Value × rk_S} {r a b c : Int32} (hG : yG h) (E : rk_ex n d rm_X7_run 29 [(0, .ref 1), (1, .int r), (2, .int a), (3, .int b), (4, .int c)] [] h = some o) :
    (yG (rk_pt h 1 9 (.int (1 : Int32))) ∧ o = (some (.int (gi h 118 10)), rk_pt h 1 9 (.int (1 : Int32)))) := by
  obtain ⟨m1, hm2, E, hG⟩ := E_go (pc' := 41) (lv' := [(0, .ref 1), (1, .int r), (2, .int a), (3, .int b), (4, .int c)]) (st' := [.int (gi (rk_pt h 1 9 (.int (1 : Int32))) 118 10)]) (h' := rk_pt h 1 9 (.int (1 : Int32))) 6 rfl E hG
  try simp only [gi_x (a := 1) (a' := 118) (by decide)] at E hG
  have ho3 := E_reti rfl E
  exact ⟨hG, ho3⟩
