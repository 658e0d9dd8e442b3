/-! pieces of the class's Frame and Machine (laid by wip/gen/y10c.py) -/
set_option maxRecDepth 100000 in
set_option maxHeartbeats 4000000 in
theorem yc_put {n d : Nat} {h : rk_S} {o : Option Value × rk_S} {f : Nat} {x : Int32} (hG : yG h) (hf : 120 ≤ f) (hf2 : f ≤ 153) (E : rk_ex n d rm_X0_put 0 [(0, .ref f), (1, .int x)] [] h = some o) :
    ((gi h f 2).toInt < 0 ∧ yG h ∧ o = (some (.int (2 : Int32)), h)) ∨
    (¬ ((gi h f 2).toInt < 0) ∧ (gi h f 2).toInt < 20 ∧ yG (rk_pt (rk_pt h (f + 2) ((gi h f 2).toNatClampNeg) (.int x)) f 2 (.int ((gi h f 2) + (1 : Int32)))) ∧ o = (some (.int (0 : Int32)), rk_pt (rk_pt h (f + 2) ((gi h f 2).toNatClampNeg) (.int x)) f 2 (.int ((gi h f 2) + (1 : Int32))))) ∨
    (¬ ((gi h f 2).toInt < 0) ∧ ¬ ((gi h f 2).toInt < 20) ∧ yG h ∧ o = (some (.int (2 : Int32)), h)) := by
  obtain ⟨m1, hm2, E, hG⟩ := E_go (pc' := 4) (lv' := [(0, .ref f), (1, .int x)]) (st' := [.int (gi h f 2)]) (h' := h) 2 rfl E hG
  rcases E_if1 (tg := 16) rfl rfl E with ⟨hc, m3, hm4, E⟩ | ⟨hc, m5, hm6, E⟩
  ·
    have c7 : (gi h f 2).toInt < 0 := hc
    clear hc
    obtain ⟨m8, hm9, E, hG⟩ := E_go (pc' := 17) (lv' := [(0, .ref f), (1, .int x)]) (st' := [.int (2 : Int32)]) (h' := h) 1 rfl E hG
    have ho10 := E_reti rfl E
    exact Or.inl ⟨c7, hG, ho10⟩
  ·
    have c11 : ¬ ((gi h f 2).toInt < 0) := hc
    clear hc
    obtain ⟨m12, hm13, E, hG⟩ := E_go (pc' := 13) (lv' := [(0, .ref f), (1, .int x)]) (st' := [.int (20 : Int32), .int (gi h f 2)]) (h' := h) 3 rfl E hG
    rcases E_if2 (tg := 18) rfl rfl E with ⟨hc, m14, hm15, E⟩ | ⟨hc, m16, hm17, E⟩
    ·
      have c18 : (gi h f 2).toInt < 20 := hc
      clear hc
      obtain ⟨m19, hm20, E, hG⟩ := E_go (pc' := 39) (lv' := [(0, .ref f), (1, .int x)]) (st' := [.int (0 : Int32)]) (h' := rk_pt (rk_pt h (f + 1 + 1) ((gi h f 2).toNatClampNeg) (.int x)) f 2 (.int ((gi (rk_pt h (f + 1 + 1) ((gi h f 2).toNatClampNeg) (.int x)) f 2) + (1 : Int32)))) 13 rfl E hG
      try simp only [gi_x (a := (f + 2)) (a' := f) (by omega), Nat.add_assoc, Nat.reduceAdd] at E hG
      have ho21 := E_reti rfl E
      exact Or.inr (Or.inl ⟨c11, c18, hG, ho21⟩)
    ·
      have c22 : ¬ ((gi h f 2).toInt < 20) := hc
      clear hc
      obtain ⟨m23, hm24, E, hG⟩ := E_go (pc' := 17) (lv' := [(0, .ref f), (1, .int x)]) (st' := [.int (2 : Int32)]) (h' := h) 1 rfl E hG
      have ho25 := E_reti rfl E
      exact Or.inr (Or.inr ⟨c11, c22, hG, ho25⟩)
set_option maxRecDepth 100000 in
set_option maxHeartbeats 4000000 in
theorem yc_take {n d : Nat} {h : rk_S} {o : Option Value × rk_S} {f : Nat} (hG : yG h) (hf : 120 ≤ f) (hf2 : f ≤ 153) (e2 : yE f 2 h) (E : rk_ex n d rm_X0_take 0 [(0, .ref f)] [] h = some o) :
    ((gi h f 2).toInt < 1 ∧ yG h ∧ o = (some (.int (0 : Int32)), h)) ∨
    (¬ ((gi h f 2).toInt < 1) ∧ (gi h f 2).toInt ≤ 20 ∧ yG (rk_pt h f 2 (.int ((gi h f 2) - (1 : Int32)))) ∧ o = (some (.int (gi h (f + 2) (((gi h f 2) - (1 : Int32)).toNatClampNeg))), rk_pt h f 2 (.int ((gi h f 2) - (1 : Int32))))) ∨
    (¬ ((gi h f 2).toInt < 1) ∧ ¬ ((gi h f 2).toInt ≤ 20) ∧ yG h ∧ o = (some (.int (0 : Int32)), h)) := by
  obtain ⟨m1, hm2, E, hG⟩ := E_go (pc' := 5) (lv' := [(0, .ref f)]) (st' := [.int (1 : Int32), .int (gi h f 2)]) (h' := h) 3 rfl E hG
  rcases E_if2 (tg := 17) rfl rfl E with ⟨hc, m3, hm4, E⟩ | ⟨hc, m5, hm6, E⟩
  ·
    have c7 : (gi h f 2).toInt < 1 := hc
    clear hc
    obtain ⟨m8, hm9, E, hG⟩ := E_go (pc' := 18) (lv' := [(0, .ref f)]) (st' := [.int (0 : Int32)]) (h' := h) 1 rfl E hG
    have ho10 := E_reti rfl E
    exact Or.inl ⟨c7, hG, ho10⟩
  ·
    have c11 : ¬ ((gi h f 2).toInt < 1) := hc
    clear hc
    obtain ⟨m12, hm13, E, hG⟩ := E_go (pc' := 14) (lv' := [(0, .ref f)]) (st' := [.int (20 : Int32), .int (gi h f 2)]) (h' := h) 3 rfl E hG
    rcases E_if2 (tg := 19) rfl rfl E with ⟨hc, m14, hm15, E⟩ | ⟨hc, m16, hm17, E⟩
    ·
      have c18 : (gi h f 2).toInt ≤ 20 := hc
      clear hc
      obtain ⟨m19, hm20, E, hG⟩ := E_go (pc' := 38) (lv' := [(0, .ref f)]) (st' := [.int (gi (rk_pt h f 2 (.int ((gi h f 2) - (1 : Int32)))) (f + 1 + 1) ((gi (rk_pt h f 2 (.int ((gi h f 2) - (1 : Int32)))) f 2).toNatClampNeg))]) (h' := rk_pt h f 2 (.int ((gi h f 2) - (1 : Int32)))) 11 rfl E hG
      try simp only [gi_s, yE_pt, e2, gi_x (a := f) (a' := (f + 2)) (by omega), Nat.add_assoc, Nat.reduceAdd] at E hG
      have ho21 := E_reti rfl E
      exact Or.inr (Or.inl ⟨c11, c18, hG, ho21⟩)
    ·
      have c22 : ¬ ((gi h f 2).toInt ≤ 20) := hc
      clear hc
      obtain ⟨m23, hm24, E, hG⟩ := E_go (pc' := 18) (lv' := [(0, .ref f)]) (st' := [.int (0 : Int32)]) (h' := h) 1 rfl E hG
      have ho25 := E_reti rfl E
      exact Or.inr (Or.inr ⟨c11, c22, hG, ho25⟩)
set_option maxRecDepth 100000 in
set_option maxHeartbeats 4000000 in
theorem yc_last {n d : Nat} {h : rk_S} {o : Option Value × rk_S} {f : Nat} (hG : yG h) (hf : 120 ≤ f) (hf2 : f ≤ 153) (E : rk_ex n d rm_X0_last 0 [(0, .ref f)] [] h = some o) :
    ((gi h f 2).toInt < 1 ∧ yG h ∧ o = (some (.int (0 : Int32)), h)) ∨
    (¬ ((gi h f 2).toInt < 1) ∧ 20 < (gi h f 2).toInt ∧ yG h ∧ o = (some (.int (0 : Int32)), h)) ∨
    (¬ ((gi h f 2).toInt < 1) ∧ ¬ (20 < (gi h f 2).toInt) ∧ yG h ∧ o = (some (.int (gi h (f + 2) (((gi h f 2) - (1 : Int32)).toNatClampNeg))), h)) := by
  obtain ⟨m1, hm2, E, hG⟩ := E_go (pc' := 5) (lv' := [(0, .ref f)]) (st' := [.int (1 : Int32), .int (gi h f 2)]) (h' := h) 3 rfl E hG
  rcases E_if2 (tg := 31) rfl rfl E with ⟨hc, m3, hm4, E⟩ | ⟨hc, m5, hm6, E⟩
  ·
    have c7 : (gi h f 2).toInt < 1 := hc
    clear hc
    obtain ⟨m8, hm9, E, hG⟩ := E_go (pc' := 32) (lv' := [(0, .ref f)]) (st' := [.int (0 : Int32)]) (h' := h) 1 rfl E hG
    have ho10 := E_reti rfl E
    exact Or.inl ⟨c7, hG, ho10⟩
  ·
    have c11 : ¬ ((gi h f 2).toInt < 1) := hc
    clear hc
    obtain ⟨m12, hm13, E, hG⟩ := E_go (pc' := 14) (lv' := [(0, .ref f)]) (st' := [.int (20 : Int32), .int (gi h f 2)]) (h' := h) 3 rfl E hG
    rcases E_if2 (tg := 31) rfl rfl E with ⟨hc, m14, hm15, E⟩ | ⟨hc, m16, hm17, E⟩
    ·
      have c18 : 20 < (gi h f 2).toInt := hc
      clear hc
      obtain ⟨m19, hm20, E, hG⟩ := E_go (pc' := 32) (lv' := [(0, .ref f)]) (st' := [.int (0 : Int32)]) (h' := h) 1 rfl E hG
      have ho21 := E_reti rfl E
      exact Or.inr (Or.inl ⟨c11, c18, hG, ho21⟩)
    ·
      have c22 : ¬ (20 < (gi h f 2).toInt) := hc
      clear hc
      obtain ⟨m23, hm24, E, hG⟩ := E_go (pc' := 32) (lv' := [(0, .ref f)]) (st' := [.int (gi h (f + 1 + 1) (((gi h f 2) - (1 : Int32)).toNatClampNeg))]) (h' := h) 8 rfl E hG
      try simp only [Nat.add_assoc, Nat.reduceAdd] at E hG
      have ho25 := E_reti rfl E
      exact Or.inr (Or.inr ⟨c11, c22, hG, ho25⟩)
set_option maxRecDepth 100000 in
set_option maxHeartbeats 4000000 in
theorem yc_beg {n d : Nat} {h : rk_S} {o : Option Value × rk_S} {f : Nat} {x y z : Int32} (hG : yG h) (hf : 120 ≤ f) (hf2 : f ≤ 153) (E : rk_ex n d rm_X0_begin 0 [(0, .ref f), (1, .int x), (2, .int y), (3, .int z)] [] h = some o) :
    (yG (rk_pt (rk_pt (rk_pt (rk_pt (rk_pt (rk_pt (rk_pt (rk_pt h (f + 1) 0 (.int x)) (f + 1) 1 (.int y)) (f + 1) 2 (.int z)) f 2 (.int (0 : Int32))) f 3 (.int (0 : Int32))) f 4 (.int (0 : Int32))) f 5 (.int (0 : Int32))) f 6 (.int (0 : Int32))) ∧ o = (none, rk_pt (rk_pt (rk_pt (rk_pt (rk_pt (rk_pt (rk_pt (rk_pt h (f + 1) 0 (.int x)) (f + 1) 1 (.int y)) (f + 1) 2 (.int z)) f 2 (.int (0 : Int32))) f 3 (.int (0 : Int32))) f 4 (.int (0 : Int32))) f 5 (.int (0 : Int32))) f 6 (.int (0 : Int32)))) := by
  obtain ⟨m1, hm2, E, hG⟩ := E_go (pc' := 46) (lv' := [(0, .ref f), (1, .int x), (2, .int y), (3, .int z)]) (st' := []) (h' := rk_pt (rk_pt (rk_pt (rk_pt (rk_pt (rk_pt (rk_pt (rk_pt h (f + 1 + 0) 0 (.int x)) (f + 1 + 0) 1 (.int y)) (f + 1 + 0) 2 (.int z)) f 2 (.int (0 : Int32))) f 3 (.int (0 : Int32))) f 4 (.int (0 : Int32))) f 5 (.int (0 : Int32))) f 6 (.int (0 : Int32))) 30 rfl E hG
  try simp only [Nat.add_assoc, Nat.reduceAdd] at E hG
  have ho3 := E_retv rfl E
  exact ⟨hG, ho3⟩
set_option maxRecDepth 100000 in
set_option maxHeartbeats 4000000 in
theorem yc_join {n d : Nat} {h : rk_S} {o : Option Value × rk_S} {f g : Nat} (hG : yG h) (hf : 120 ≤ f) (hf2 : f ≤ 153) (hg : 120 ≤ g) (hg2 : g ≤ 153) (hfg : f + 3 ≤ g) (E : rk_ex n d rm_X0_joinCalled 0 [(0, .ref f), (1, .ref g)] [] h = some o) :
    ((gi h g 5).toInt < (gi h f 5).toInt ∧ yG (rk_pt h f 4 (.int ((gi h f 4) ||| (gi h g 4)))) ∧ o = (none, rk_pt h f 4 (.int ((gi h f 4) ||| (gi h g 4))))) ∨
    (¬ ((gi h g 5).toInt < (gi h f 5).toInt) ∧ yG (rk_pt (rk_pt h f 4 (.int ((gi h f 4) ||| (gi h g 4)))) f 5 (.int ((gi h g 5) + (1 : Int32)))) ∧ o = (none, rk_pt (rk_pt h f 4 (.int ((gi h f 4) ||| (gi h g 4)))) f 5 (.int ((gi h g 5) + (1 : Int32))))) := by
  obtain ⟨m1, hm2, E, hG⟩ := E_go (pc' := 21) (lv' := [(0, .ref f), (1, .ref g)]) (st' := [.int (gi (rk_pt h f 4 (.int ((gi h f 4) ||| (gi h g 4)))) f 5), .int (gi (rk_pt h f 4 (.int ((gi h f 4) ||| (gi h g 4)))) g 5)]) (h' := rk_pt h f 4 (.int ((gi h f 4) ||| (gi h g 4)))) 11 rfl E hG
  try simp only [gi_x (a := f) (a' := g) (by omega), gi_y (k := 4) (k' := 5) (by decide)] at E hG
  rcases E_if2 (tg := 34) rfl rfl E with ⟨hc, m3, hm4, E⟩ | ⟨hc, m5, hm6, E⟩
  ·
    have c7 : (gi h g 5).toInt < (gi h f 5).toInt := hc
    clear hc
    have ho8 := E_retv rfl E
    exact Or.inl ⟨c7, hG, ho8⟩
  ·
    have c9 : ¬ ((gi h g 5).toInt < (gi h f 5).toInt) := hc
    clear hc
    obtain ⟨m10, hm11, E, hG⟩ := E_go (pc' := 34) (lv' := [(0, .ref f), (1, .ref g)]) (st' := []) (h' := rk_pt (rk_pt h f 4 (.int ((gi h f 4) ||| (gi h g 4)))) f 5 (.int ((gi (rk_pt h f 4 (.int ((gi h f 4) ||| (gi h g 4)))) g 5) + (1 : Int32)))) 6 rfl E hG
    try simp only [gi_x (a := f) (a' := g) (by omega)] at E hG
    have ho12 := E_retv rfl E
    exact Or.inr ⟨c9, hG, ho12⟩
set_option maxRecDepth 100000 in
set_option maxHeartbeats 4000000 in
theorem yc_rn {n d : Nat} {h : rk_S} {o : Option Value × rk_S} {f : Nat} {x : Int32} (hG : yG h) (hf : 120 ≤ f) (hf2 : f ≤ 153) (q1 : ¬ (x.toInt < 0)) (q2 : x.toInt < 3) (E : rk_ex n d rm_X2_readNumber 0 [(0, .ref 118), (1, .int x), (2, .ref f)] [] h = some o) :
    ((gi h f 2).toInt < 20 ∧ ∃ m, m < n + 1 ∧ yG (rk_pt h f 3 (.int ((gi h f 3) ||| ((1 : Int32) <<< (x &&& 31))))) ∧ rk_ex m d rm_X2_readNumber 27 [(0, .ref 118), (1, .int x), (2, .ref f)] [.int (gi h (f + 1) x.toNatClampNeg), .ref f] (rk_pt h f 3 (.int ((gi h f 3) ||| ((1 : Int32) <<< (x &&& 31))))) = some o) ∨
    (¬ ((gi h f 2).toInt < 20) ∧ yG h ∧ o = (some (.int (2 : Int32)), h)) := by
  obtain ⟨m1, hm2, E, hG⟩ := E_go (pc' := 1) (lv' := [(0, .ref 118), (1, .int x), (2, .ref f)]) (st' := [.ref f]) (h' := h) 1 rfl E hG
  obtain ⟨m3, d4, o5, hm7, E6, F6⟩ := E_call (ar := ([.ref f], [])) rfl rfl rfl rfl rfl rfl E
  replace E6 : rk_ex m3 d4 rm_X0_isFull 0 [(0, .ref f)] [] h = some o5 := E6
  obtain ⟨m8, hm9, E6, hG⟩ := E_go (pc' := 6) (lv' := [(0, .ref f)]) (st' := [.int (20 : Int32), .int (gi h f 2)]) (h' := h) 3 rfl E6 hG
  rcases E_if2 (tg := 13) rfl rfl E6 with ⟨hc, m10, hm11, E6⟩ | ⟨hc, m12, hm13, E6⟩
  ·
    have c14 : (gi h f 2).toInt < 20 := hc
    clear hc
    obtain ⟨m15, hm16, E6, hG⟩ := E_go (pc' := 14) (lv' := [(0, .ref f)]) (st' := [.int (0 : Int32)]) (h' := h) 1 rfl E6 hG
    have ho17 := E_reti rfl E6
    subst ho17
    have E : rk_ex m3 d rm_X2_readNumber 4 [(0, .ref 118), (1, .int x), (2, .ref f)] [.int (0 : Int32)] h = some o := F6
    rcases E_if1 (tg := 9) rfl rfl E with ⟨hc, m18, hm19, E⟩ | ⟨hc, m20, hm21, E⟩
    ·
      clear hc
      obtain ⟨m22, hm23, E, hG⟩ := E_go (pc' := 24) (lv' := [(0, .ref 118), (1, .int x), (2, .ref f)]) (st' := [.int x, .ref f, .ref f]) (h' := rk_pt h f 3 (.int ((gi h f 3) ||| ((1 : Int32) <<< (x &&& 31))))) 11 rfl E hG
      obtain ⟨m24, d25, o26, hm28, E27, F27⟩ := E_call (ar := ([.ref f, .int x], [.ref f])) rfl rfl rfl rfl rfl rfl E
      replace E27 : rk_ex m24 d25 rm_X0_numberOf 0 [(0, .ref f), (1, .int x)] [] (rk_pt h f 3 (.int ((gi h f 3) ||| ((1 : Int32) <<< (x &&& 31))))) = some o26 := E27
      obtain ⟨m29, hm30, E27, hG⟩ := E_go (pc' := 1) (lv' := [(0, .ref f), (1, .int x)]) (st' := [.int x]) (h' := rk_pt h f 3 (.int ((gi h f 3) ||| ((1 : Int32) <<< (x &&& 31))))) 1 rfl E27 hG
      rcases E_if1 (tg := 18) rfl rfl E27 with ⟨hc, m31, hm32, E27⟩ | ⟨hc, m33, hm34, E27⟩
      · exact absurd (show x.toInt < 0 from hc) (by omega)
      ·
        clear hc
        obtain ⟨m35, hm36, E27, hG⟩ := E_go (pc' := 6) (lv' := [(0, .ref f), (1, .int x)]) (st' := [.int (3 : Int32), .int x]) (h' := rk_pt h f 3 (.int ((gi h f 3) ||| ((1 : Int32) <<< (x &&& 31))))) 2 rfl E27 hG
        rcases E_if2 (tg := 18) rfl rfl E27 with ⟨hc, m37, hm38, E27⟩ | ⟨hc, m39, hm40, E27⟩
        · exact absurd (show 3 ≤ x.toInt from hc) (by omega)
        ·
          clear hc
          obtain ⟨m41, hm42, E27, hG⟩ := E_go (pc' := 19) (lv' := [(0, .ref f), (1, .int x)]) (st' := [.int (gi (rk_pt h f 3 (.int ((gi h f 3) ||| ((1 : Int32) <<< (x &&& 31))))) (f + 1 + 0) x.toNatClampNeg)]) (h' := rk_pt h f 3 (.int ((gi h f 3) ||| ((1 : Int32) <<< (x &&& 31))))) 5 rfl E27 hG
          try simp only [gi_x (a := f) (a' := (f + 1)) (by omega), Nat.add_assoc, Nat.reduceAdd] at E27 hG
          have ho43 := E_reti rfl E27
          subst ho43
          have E : rk_ex m24 d rm_X2_readNumber 27 [(0, .ref 118), (1, .int x), (2, .ref f)] [.int (gi h (f + 1) x.toNatClampNeg), .ref f] (rk_pt h f 3 (.int ((gi h f 3) ||| ((1 : Int32) <<< (x &&& 31))))) = some o := F27
          exact Or.inl ⟨c14, _, (by omega), hG, E⟩
    · exact absurd (show ¬ ((0 : Int) = 0) from hc) (by decide)
  ·
    have c44 : ¬ ((gi h f 2).toInt < 20) := hc
    clear hc
    obtain ⟨m45, hm46, E6, hG⟩ := E_go (pc' := 14) (lv' := [(0, .ref f)]) (st' := [.int (1 : Int32)]) (h' := h) 2 rfl E6 hG
    have ho47 := E_reti rfl E6
    subst ho47
    have E : rk_ex m3 d rm_X2_readNumber 4 [(0, .ref 118), (1, .int x), (2, .ref f)] [.int (1 : Int32)] h = some o := F6
    rcases E_if1 (tg := 9) rfl rfl E with ⟨hc, m48, hm49, E⟩ | ⟨hc, m50, hm51, E⟩
    · exact absurd (show (1 : Int) = 0 from hc) (by decide)
    ·
      clear hc
      obtain ⟨m52, hm53, E, hG⟩ := E_go (pc' := 8) (lv' := [(0, .ref 118), (1, .int x), (2, .ref f)]) (st' := [.int (2 : Int32)]) (h' := h) 1 rfl E hG
      have ho54 := E_reti rfl E
      exact Or.inr ⟨c44, hG, ho54⟩
set_option maxRecDepth 100000 in
set_option maxHeartbeats 4000000 in
theorem yc_rs {n d : Nat} {h : rk_S} {o : Option Value × rk_S} {f : Nat} {x : Int32} (hG : yG h) (hf : 120 ≤ f) (hf2 : f ≤ 153) (q1 : ¬ (x.toInt < 0)) (q2 : x.toInt < 16) (E : rk_ex n d rm_X2_readStore 0 [(0, .ref 118), (1, .int x), (2, .ref f)] [] h = some o) :
    ((gi h f 2).toInt < 20 ∧ ∃ m, m < n + 1 ∧ yG (rk_pt h f 4 (.int ((gi h f 4) ||| ((1 : Int32) <<< (x &&& 31))))) ∧ rk_ex m d rm_X2_readStore 30 [(0, .ref 118), (1, .int x), (2, .ref f)] [.int (gi h 19 x.toNatClampNeg), .ref f] (rk_pt h f 4 (.int ((gi h f 4) ||| ((1 : Int32) <<< (x &&& 31))))) = some o) ∨
    (¬ ((gi h f 2).toInt < 20) ∧ yG h ∧ o = (some (.int (2 : Int32)), h)) := by
  obtain ⟨m1, hm2, E, hG⟩ := E_go (pc' := 1) (lv' := [(0, .ref 118), (1, .int x), (2, .ref f)]) (st' := [.ref f]) (h' := h) 1 rfl E hG
  obtain ⟨m3, d4, o5, hm7, E6, F6⟩ := E_call (ar := ([.ref f], [])) rfl rfl rfl rfl rfl rfl E
  replace E6 : rk_ex m3 d4 rm_X0_isFull 0 [(0, .ref f)] [] h = some o5 := E6
  obtain ⟨m8, hm9, E6, hG⟩ := E_go (pc' := 6) (lv' := [(0, .ref f)]) (st' := [.int (20 : Int32), .int (gi h f 2)]) (h' := h) 3 rfl E6 hG
  rcases E_if2 (tg := 13) rfl rfl E6 with ⟨hc, m10, hm11, E6⟩ | ⟨hc, m12, hm13, E6⟩
  ·
    have c14 : (gi h f 2).toInt < 20 := hc
    clear hc
    obtain ⟨m15, hm16, E6, hG⟩ := E_go (pc' := 14) (lv' := [(0, .ref f)]) (st' := [.int (0 : Int32)]) (h' := h) 1 rfl E6 hG
    have ho17 := E_reti rfl E6
    subst ho17
    have E : rk_ex m3 d rm_X2_readStore 4 [(0, .ref 118), (1, .int x), (2, .ref f)] [.int (0 : Int32)] h = some o := F6
    rcases E_if1 (tg := 9) rfl rfl E with ⟨hc, m18, hm19, E⟩ | ⟨hc, m20, hm21, E⟩
    ·
      clear hc
      obtain ⟨m22, hm23, E, hG⟩ := E_go (pc' := 27) (lv' := [(0, .ref 118), (1, .int x), (2, .ref f)]) (st' := [.int x, .ref 18, .ref f]) (h' := rk_pt h f 4 (.int ((gi h f 4) ||| ((1 : Int32) <<< (x &&& 31))))) 12 rfl E hG
      obtain ⟨m24, d25, o26, hm28, E27, F27⟩ := E_call (ar := ([.ref 18, .int x], [.ref f])) rfl rfl rfl rfl rfl rfl E
      replace E27 : rk_ex m24 d25 rm_X6_valueOf 0 [(0, .ref 18), (1, .int x)] [] (rk_pt h f 4 (.int ((gi h f 4) ||| ((1 : Int32) <<< (x &&& 31))))) = some o26 := E27
      obtain ⟨m29, hm30, E27, hG⟩ := E_go (pc' := 1) (lv' := [(0, .ref 18), (1, .int x)]) (st' := [.int x]) (h' := rk_pt h f 4 (.int ((gi h f 4) ||| ((1 : Int32) <<< (x &&& 31))))) 1 rfl E27 hG
      rcases E_if1 (tg := 19) rfl rfl E27 with ⟨hc, m31, hm32, E27⟩ | ⟨hc, m33, hm34, E27⟩
      · exact absurd (show x.toInt < 0 from hc) (by omega)
      ·
        clear hc
        obtain ⟨m35, hm36, E27, hG⟩ := E_go (pc' := 7) (lv' := [(0, .ref 18), (1, .int x)]) (st' := [.int (16 : Int32), .int x]) (h' := rk_pt h f 4 (.int ((gi h f 4) ||| ((1 : Int32) <<< (x &&& 31))))) 2 rfl E27 hG
        rcases E_if2 (tg := 19) rfl rfl E27 with ⟨hc, m37, hm38, E27⟩ | ⟨hc, m39, hm40, E27⟩
        · exact absurd (show 16 ≤ x.toInt from hc) (by omega)
        ·
          clear hc
          obtain ⟨m41, hm42, E27, hG⟩ := E_go (pc' := 20) (lv' := [(0, .ref 18), (1, .int x)]) (st' := [.int (gi (rk_pt h f 4 (.int ((gi h f 4) ||| ((1 : Int32) <<< (x &&& 31))))) 19 x.toNatClampNeg)]) (h' := rk_pt h f 4 (.int ((gi h f 4) ||| ((1 : Int32) <<< (x &&& 31))))) 5 rfl E27 hG
          try simp only [gi_x (a := f) (a' := 19) (by omega)] at E27 hG
          have ho43 := E_reti rfl E27
          subst ho43
          have E : rk_ex m24 d rm_X2_readStore 30 [(0, .ref 118), (1, .int x), (2, .ref f)] [.int (gi h 19 x.toNatClampNeg), .ref f] (rk_pt h f 4 (.int ((gi h f 4) ||| ((1 : Int32) <<< (x &&& 31))))) = some o := F27
          exact Or.inl ⟨c14, _, (by omega), hG, E⟩
    · exact absurd (show ¬ ((0 : Int) = 0) from hc) (by decide)
  ·
    have c44 : ¬ ((gi h f 2).toInt < 20) := hc
    clear hc
    obtain ⟨m45, hm46, E6, hG⟩ := E_go (pc' := 14) (lv' := [(0, .ref f)]) (st' := [.int (1 : Int32)]) (h' := h) 2 rfl E6 hG
    have ho47 := E_reti rfl E6
    subst ho47
    have E : rk_ex m3 d rm_X2_readStore 4 [(0, .ref 118), (1, .int x), (2, .ref f)] [.int (1 : Int32)] h = some o := F6
    rcases E_if1 (tg := 9) rfl rfl E with ⟨hc, m48, hm49, E⟩ | ⟨hc, m50, hm51, E⟩
    · exact absurd (show (1 : Int) = 0 from hc) (by decide)
    ·
      clear hc
      obtain ⟨m52, hm53, E, hG⟩ := E_go (pc' := 8) (lv' := [(0, .ref 118), (1, .int x), (2, .ref f)]) (st' := [.int (2 : Int32)]) (h' := h) 1 rfl E hG
      have ho54 := E_reti rfl E
      exact Or.inr ⟨c44, hG, ho54⟩
set_option maxRecDepth 100000 in
set_option maxHeartbeats 4000000 in
theorem yc_ws {n d : Nat} {h : rk_S} {o : Option Value × rk_S} {f : Nat} {x : Int32} (hG : yG h) (hf : 120 ≤ f) (hf2 : f ≤ 153) (E : rk_ex n d rm_X2_writeStore 0 [(0, .ref 118), (1, .int x), (2, .ref f)] [] h = some o) :
    (1 ≤ (gi h f 2).toInt ∧ ∃ m, m < n + 1 ∧ yG h ∧ rk_ex m d rm_X2_writeStore 16 [(0, .ref 118), (1, .int x), (2, .ref f)] [.ref f, .int x, .ref 18] h = some o) ∨
    (¬ (1 ≤ (gi h f 2).toInt) ∧ yG h ∧ o = (some (.int (1 : Int32)), h)) := by
  obtain ⟨m1, hm2, E, hG⟩ := E_go (pc' := 5) (lv' := [(0, .ref 118), (1, .int x), (2, .ref f)]) (st' := [.int (1 : Int32), .int (gi h f 2)]) (h' := h) 3 rfl E hG
  rcases E_if2 (tg := 10) rfl rfl E with ⟨hc, m3, hm4, E⟩ | ⟨hc, m5, hm6, E⟩
  ·
    have c7 : 1 ≤ (gi h f 2).toInt := hc
    clear hc
    obtain ⟨m8, hm9, E, hG⟩ := E_go (pc' := 16) (lv' := [(0, .ref 118), (1, .int x), (2, .ref f)]) (st' := [.ref f, .int x, .ref 18]) (h' := h) 4 rfl E hG
    exact Or.inl ⟨c7, _, (by omega), hG, E⟩
  ·
    have c10 : ¬ (1 ≤ (gi h f 2).toInt) := hc
    clear hc
    obtain ⟨m11, hm12, E, hG⟩ := E_go (pc' := 9) (lv' := [(0, .ref 118), (1, .int x), (2, .ref f)]) (st' := [.int (1 : Int32)]) (h' := h) 1 rfl E hG
    have ho13 := E_reti rfl E
    exact Or.inr ⟨c10, hG, ho13⟩
set_option maxRecDepth 100000 in
set_option maxHeartbeats 4000000 in
theorem yc_cb {n d : Nat} {h : rk_S} {o : Option Value × rk_S} {f : Nat} {x : Int32} (hG : yG h) (hf : 120 ≤ f) (hf2 : f ≤ 153) (E : rk_ex n d rm_X2_combine 0 [(0, .ref 118), (1, .int x), (2, .ref f)] [] h = some o) :
    (2 ≤ (gi h f 2).toInt ∧ ∃ m, m < n + 1 ∧ yG h ∧ rk_ex m d rm_X2_combine 11 [(0, .ref 118), (1, .int x), (2, .ref f)] [.ref f] h = some o) ∨
    (¬ (2 ≤ (gi h f 2).toInt) ∧ yG h ∧ o = (some (.int (1 : Int32)), h)) := by
  obtain ⟨m1, hm2, E, hG⟩ := E_go (pc' := 5) (lv' := [(0, .ref 118), (1, .int x), (2, .ref f)]) (st' := [.int (2 : Int32), .int (gi h f 2)]) (h' := h) 3 rfl E hG
  rcases E_if2 (tg := 10) rfl rfl E with ⟨hc, m3, hm4, E⟩ | ⟨hc, m5, hm6, E⟩
  ·
    have c7 : 2 ≤ (gi h f 2).toInt := hc
    clear hc
    obtain ⟨m8, hm9, E, hG⟩ := E_go (pc' := 11) (lv' := [(0, .ref 118), (1, .int x), (2, .ref f)]) (st' := [.ref f]) (h' := h) 1 rfl E hG
    exact Or.inl ⟨c7, _, (by omega), hG, E⟩
  ·
    have c10 : ¬ (2 ≤ (gi h f 2).toInt) := hc
    clear hc
    obtain ⟨m11, hm12, E, hG⟩ := E_go (pc' := 9) (lv' := [(0, .ref 118), (1, .int x), (2, .ref f)]) (st' := [.int (1 : Int32)]) (h' := h) 1 rfl E hG
    have ho13 := E_reti rfl E
    exact Or.inr ⟨c10, hG, ho13⟩
set_option maxRecDepth 100000 in
set_option maxHeartbeats 4000000 in
theorem yc_cb1 {n d : Nat} {h : rk_S} {o : Option Value × rk_S} {f : Nat} {x y : Int32} (hG : yG h) (hf : 120 ≤ f) (hf2 : f ≤ 153) (E : rk_ex n d rm_X2_combine 14 [(0, .ref 118), (1, .int x), (2, .ref f)] [.int y] h = some o) :
    (∃ m, m < n + 1 ∧ yG h ∧ rk_ex m d rm_X2_combine 16 [(3, .int y), (0, .ref 118), (1, .int x), (2, .ref f)] [.ref f] h = some o) := by
  obtain ⟨m1, hm2, E, hG⟩ := E_go (pc' := 16) (lv' := [(3, .int y), (0, .ref 118), (1, .int x), (2, .ref f)]) (st' := [.ref f]) (h' := h) 2 rfl E hG
  exact ⟨_, (by omega), hG, E⟩
set_option maxRecDepth 100000 in
set_option maxHeartbeats 4000000 in
theorem yc_cb2 {n d : Nat} {h : rk_S} {o : Option Value × rk_S} {f : Nat} {x y z : Int32} (hG : yG h) (hf : 120 ≤ f) (hf2 : f ≤ 153) (E : rk_ex n d rm_X2_combine 19 [(3, .int y), (0, .ref 118), (1, .int x), (2, .ref f)] [.int z] h = some o) :
    (x.toInt < 0 ∧ ¬ z.toInt = y.toInt ∧ ∃ m, m < n + 1 ∧ yG h ∧ rk_ex m d rm_X2_combine 128 [(4, .int z), (3, .int y), (0, .ref 118), (1, .int x), (2, .ref f)] [.int (0 : Int32), .ref f] h = some o) ∨
    (x.toInt < 0 ∧ z.toInt = y.toInt ∧ ∃ m, m < n + 1 ∧ yG h ∧ rk_ex m d rm_X2_combine 128 [(4, .int z), (3, .int y), (0, .ref 118), (1, .int x), (2, .ref f)] [.int (1 : Int32), .ref f] h = some o) ∨
    (4 < x.toInt ∧ ¬ z.toInt = y.toInt ∧ ∃ m, m < n + 1 ∧ yG h ∧ rk_ex m d rm_X2_combine 128 [(4, .int z), (3, .int y), (0, .ref 118), (1, .int x), (2, .ref f)] [.int (0 : Int32), .ref f] h = some o) ∨
    (4 < x.toInt ∧ z.toInt = y.toInt ∧ ∃ m, m < n + 1 ∧ yG h ∧ rk_ex m d rm_X2_combine 128 [(4, .int z), (3, .int y), (0, .ref 118), (1, .int x), (2, .ref f)] [.int (1 : Int32), .ref f] h = some o) ∨
    (x.toInt = 0 ∧ ∃ m, m < n + 1 ∧ yG h ∧ rk_ex m d rm_X2_combine 61 [(4, .int z), (3, .int y), (0, .ref 118), (1, .int x), (2, .ref f)] [.int (z + y), .ref f] h = some o) ∨
    (x.toInt = 1 ∧ ∃ m, m < n + 1 ∧ yG h ∧ rk_ex m d rm_X2_combine 70 [(4, .int z), (3, .int y), (0, .ref 118), (1, .int x), (2, .ref f)] [.int (z - y), .ref f] h = some o) ∨
    (x.toInt = 2 ∧ ∃ m, m < n + 1 ∧ yG h ∧ rk_ex m d rm_X2_combine 79 [(4, .int z), (3, .int y), (0, .ref 118), (1, .int x), (2, .ref f)] [.int (z * y), .ref f] h = some o) ∨
    (x.toInt = 3 ∧ ¬ y.toInt = 0 ∧ ∃ m, m < n + 1 ∧ yG h ∧ rk_ex m d rm_X2_combine 96 [(4, .int z), (3, .int y), (0, .ref 118), (1, .int x), (2, .ref f)] [.int (z / y), .ref f] h = some o) ∨
    (x.toInt = 3 ∧ y.toInt = 0 ∧ yG h ∧ o = (some (.int (3 : Int32)), h)) ∨
    (x.toInt = 4 ∧ y.toInt ≤ z.toInt ∧ ∃ m, m < n + 1 ∧ yG h ∧ rk_ex m d rm_X2_combine 112 [(4, .int z), (3, .int y), (0, .ref 118), (1, .int x), (2, .ref f)] [.int (0 : Int32), .ref f] h = some o) ∨
    (x.toInt = 4 ∧ ¬ (y.toInt ≤ z.toInt) ∧ ∃ m, m < n + 1 ∧ yG h ∧ rk_ex m d rm_X2_combine 112 [(4, .int z), (3, .int y), (0, .ref 118), (1, .int x), (2, .ref f)] [.int (1 : Int32), .ref f] h = some o) := by
  obtain ⟨m1, hm2, E, hG⟩ := E_go (pc' := 22) (lv' := [(4, .int z), (3, .int y), (0, .ref 118), (1, .int x), (2, .ref f)]) (st' := [.int x]) (h' := h) 2 rfl E hG
  rcases (show x.toInt < 0 ∨ 4 < x.toInt ∨ x.toInt = 0 ∨ x.toInt = 1 ∨ x.toInt = 2 ∨ x.toInt = 3 ∨ x.toInt = 4 by omega) with hc | hc | hc | hc | hc | hc | hc
  ·
    have c3 : x.toInt < 0 := hc
    clear hc
    obtain ⟨m4, hm5, E⟩ := E_swd (tg := 116) rfl (Or.inl c3) rfl E
    obtain ⟨m6, hm7, E, hG⟩ := E_go (pc' := 120) (lv' := [(4, .int z), (3, .int y), (0, .ref 118), (1, .int x), (2, .ref f)]) (st' := [.int y, .int z, .ref f]) (h' := h) 3 rfl E hG
    rcases E_if2 (tg := 127) rfl rfl E with ⟨hc, m8, hm9, E⟩ | ⟨hc, m10, hm11, E⟩
    ·
      have c12 : ¬ z.toInt = y.toInt := hc
      clear hc
      obtain ⟨m13, hm14, E, hG⟩ := E_go (pc' := 128) (lv' := [(4, .int z), (3, .int y), (0, .ref 118), (1, .int x), (2, .ref f)]) (st' := [.int (0 : Int32), .ref f]) (h' := h) 1 rfl E hG
      exact Or.inl ⟨c3, c12, _, (by omega), hG, E⟩
    ·
      have c15 : z.toInt = y.toInt := Decidable.not_not.mp hc
      clear hc
      obtain ⟨m16, hm17, E, hG⟩ := E_go (pc' := 128) (lv' := [(4, .int z), (3, .int y), (0, .ref 118), (1, .int x), (2, .ref f)]) (st' := [.int (1 : Int32), .ref f]) (h' := h) 2 rfl E hG
      exact Or.inr (Or.inl ⟨c3, c15, _, (by omega), hG, E⟩)
  ·
    have c18 : 4 < x.toInt := hc
    clear hc
    obtain ⟨m19, hm20, E⟩ := E_swd (tg := 116) rfl (Or.inr c18) rfl E
    obtain ⟨m21, hm22, E, hG⟩ := E_go (pc' := 120) (lv' := [(4, .int z), (3, .int y), (0, .ref 118), (1, .int x), (2, .ref f)]) (st' := [.int y, .int z, .ref f]) (h' := h) 3 rfl E hG
    rcases E_if2 (tg := 127) rfl rfl E with ⟨hc, m23, hm24, E⟩ | ⟨hc, m25, hm26, E⟩
    ·
      have c27 : ¬ z.toInt = y.toInt := hc
      clear hc
      obtain ⟨m28, hm29, E, hG⟩ := E_go (pc' := 128) (lv' := [(4, .int z), (3, .int y), (0, .ref 118), (1, .int x), (2, .ref f)]) (st' := [.int (0 : Int32), .ref f]) (h' := h) 1 rfl E hG
      exact Or.inr (Or.inr (Or.inl ⟨c18, c27, _, (by omega), hG, E⟩))
    ·
      have c30 : z.toInt = y.toInt := Decidable.not_not.mp hc
      clear hc
      obtain ⟨m31, hm32, E, hG⟩ := E_go (pc' := 128) (lv' := [(4, .int z), (3, .int y), (0, .ref 118), (1, .int x), (2, .ref f)]) (st' := [.int (1 : Int32), .ref f]) (h' := h) 2 rfl E hG
      exact Or.inr (Or.inr (Or.inr (Or.inl ⟨c18, c30, _, (by omega), hG, E⟩)))
  ·
    have c33 : x.toInt = 0 := hc
    clear hc
    obtain ⟨m34, hm35, E⟩ := E_swi (tg := 56) rfl c33 (by decide) (by decide) rfl rfl E
    obtain ⟨m36, hm37, E, hG⟩ := E_go (pc' := 61) (lv' := [(4, .int z), (3, .int y), (0, .ref 118), (1, .int x), (2, .ref f)]) (st' := [.int (z + y), .ref f]) (h' := h) 4 rfl E hG
    exact Or.inr (Or.inr (Or.inr (Or.inr (Or.inl ⟨c33, _, (by omega), hG, E⟩))))
  ·
    have c38 : x.toInt = 1 := hc
    clear hc
    obtain ⟨m39, hm40, E⟩ := E_swi (tg := 65) rfl c38 (by decide) (by decide) rfl rfl E
    obtain ⟨m41, hm42, E, hG⟩ := E_go (pc' := 70) (lv' := [(4, .int z), (3, .int y), (0, .ref 118), (1, .int x), (2, .ref f)]) (st' := [.int (z - y), .ref f]) (h' := h) 4 rfl E hG
    exact Or.inr (Or.inr (Or.inr (Or.inr (Or.inr (Or.inl ⟨c38, _, (by omega), hG, E⟩)))))
  ·
    have c43 : x.toInt = 2 := hc
    clear hc
    obtain ⟨m44, hm45, E⟩ := E_swi (tg := 74) rfl c43 (by decide) (by decide) rfl rfl E
    obtain ⟨m46, hm47, E, hG⟩ := E_go (pc' := 79) (lv' := [(4, .int z), (3, .int y), (0, .ref 118), (1, .int x), (2, .ref f)]) (st' := [.int (z * y), .ref f]) (h' := h) 4 rfl E hG
    exact Or.inr (Or.inr (Or.inr (Or.inr (Or.inr (Or.inr (Or.inl ⟨c43, _, (by omega), hG, E⟩))))))
  ·
    have c48 : x.toInt = 3 := hc
    clear hc
    obtain ⟨m49, hm50, E⟩ := E_swi (tg := 83) rfl c48 (by decide) (by decide) rfl rfl E
    obtain ⟨m51, hm52, E, hG⟩ := E_go (pc' := 84) (lv' := [(4, .int z), (3, .int y), (0, .ref 118), (1, .int x), (2, .ref f)]) (st' := [.int y]) (h' := h) 1 rfl E hG
    rcases E_if1 (tg := 91) rfl rfl E with ⟨hc, m53, hm54, E⟩ | ⟨hc, m55, hm56, E⟩
    ·
      have c57 : ¬ y.toInt = 0 := hc
      clear hc
      obtain ⟨m58, hm59, E, hG⟩ := E_go (pc' := 96) (lv' := [(4, .int z), (3, .int y), (0, .ref 118), (1, .int x), (2, .ref f)]) (st' := [.int (z / y), .ref f]) (h' := h) 4 rfl E hG
      exact Or.inr (Or.inr (Or.inr (Or.inr (Or.inr (Or.inr (Or.inr (Or.inl ⟨c48, c57, _, (by omega), hG, E⟩)))))))
    ·
      have c60 : y.toInt = 0 := Decidable.not_not.mp hc
      clear hc
      obtain ⟨m61, hm62, E, hG⟩ := E_go (pc' := 99) (lv' := [(4, .int z), (3, .int y), (0, .ref 118), (1, .int x), (2, .ref f)]) (st' := [.int (3 : Int32)]) (h' := h) 2 rfl E hG
      have ho63 := E_reti rfl E
      exact Or.inr (Or.inr (Or.inr (Or.inr (Or.inr (Or.inr (Or.inr (Or.inr (Or.inl ⟨c48, c60, hG, ho63⟩))))))))
  ·
    have c64 : x.toInt = 4 := hc
    clear hc
    obtain ⟨m65, hm66, E⟩ := E_swi (tg := 100) rfl c64 (by decide) (by decide) rfl rfl E
    obtain ⟨m67, hm68, E, hG⟩ := E_go (pc' := 104) (lv' := [(4, .int z), (3, .int y), (0, .ref 118), (1, .int x), (2, .ref f)]) (st' := [.int y, .int z, .ref f]) (h' := h) 3 rfl E hG
    rcases E_if2 (tg := 111) rfl rfl E with ⟨hc, m69, hm70, E⟩ | ⟨hc, m71, hm72, E⟩
    ·
      have c73 : y.toInt ≤ z.toInt := hc
      clear hc
      obtain ⟨m74, hm75, E, hG⟩ := E_go (pc' := 112) (lv' := [(4, .int z), (3, .int y), (0, .ref 118), (1, .int x), (2, .ref f)]) (st' := [.int (0 : Int32), .ref f]) (h' := h) 1 rfl E hG
      exact Or.inr (Or.inr (Or.inr (Or.inr (Or.inr (Or.inr (Or.inr (Or.inr (Or.inr (Or.inl ⟨c64, c73, _, (by omega), hG, E⟩)))))))))
    ·
      have c76 : ¬ (y.toInt ≤ z.toInt) := hc
      clear hc
      obtain ⟨m77, hm78, E, hG⟩ := E_go (pc' := 112) (lv' := [(4, .int z), (3, .int y), (0, .ref 118), (1, .int x), (2, .ref f)]) (st' := [.int (1 : Int32), .ref f]) (h' := h) 2 rfl E hG
      exact Or.inr (Or.inr (Or.inr (Or.inr (Or.inr (Or.inr (Or.inr (Or.inr (Or.inr (Or.inr ⟨c64, c76, _, (by omega), hG, E⟩)))))))))
set_option maxRecDepth 100000 in
set_option maxHeartbeats 4000000 in
theorem yc_ce {n d : Nat} {h : rk_S} {o : Option Value × rk_S} {f : Nat} {x : Int32} (hG : yG h) (hf : 120 ≤ f) (hf2 : f ≤ 153) (e18 : yE 18 1 h) (E : rk_ex n d rm_X2_changeEnd 0 [(0, .ref 118), (1, .int x), (2, .ref f)] [] h = some o) :
    (¬ x.toInt = 8 ∧ 1 ≤ (gi h f 2).toInt ∧ ¬ x.toInt = 7 ∧ ∃ m, m < n + 1 ∧ yG h ∧ rk_ex m d rm_X2_changeEnd 55 [(0, .ref 118), (1, .int x), (2, .ref f)] [.ref f] h = some o) ∨
    (¬ x.toInt = 8 ∧ 1 ≤ (gi h f 2).toInt ∧ x.toInt = 7 ∧ 20 < (gi h f 2).toInt ∧ ∃ m, m < n + 1 ∧ yG h ∧ rk_ex m d rm_X2_changeEnd 50 [(0, .ref 118), (1, .int x), (2, .ref f)] [.int (0 : Int32), .ref f] h = some o) ∨
    (¬ x.toInt = 8 ∧ 1 ≤ (gi h f 2).toInt ∧ x.toInt = 7 ∧ ¬ (20 < (gi h f 2).toInt) ∧ ∃ m, m < n + 1 ∧ yG h ∧ rk_ex m d rm_X2_changeEnd 50 [(0, .ref 118), (1, .int x), (2, .ref f)] [.int (gi h (f + 2) (((gi h f 2) - (1 : Int32)).toNatClampNeg)), .ref f] h = some o) ∨
    (¬ x.toInt = 8 ∧ ¬ (1 ≤ (gi h f 2).toInt) ∧ yG h ∧ o = (some (.int (1 : Int32)), h)) ∨
    (x.toInt = 8 ∧ (gi h f 2).toInt < 20 ∧ ∃ m, m < n + 1 ∧ yG (rk_pt h 18 1 (.int (((69069 : Int32) * (gi h 18 1)) + (1 : Int32)))) ∧ rk_ex m d rm_X2_changeEnd 25 [(0, .ref 118), (1, .int x), (2, .ref f)] [.int (((((69069 : Int32) * (gi h 18 1)) + (1 : Int32)).toUInt32 >>> ((16 : Int32).toUInt32 &&& Int32.toUInt32 31)).toInt32), .ref f] (rk_pt h 18 1 (.int (((69069 : Int32) * (gi h 18 1)) + (1 : Int32)))) = some o) ∨
    (x.toInt = 8 ∧ ¬ ((gi h f 2).toInt < 20) ∧ yG h ∧ o = (some (.int (2 : Int32)), h)) := by
  obtain ⟨m1, hm2, E, hG⟩ := E_go (pc' := 3) (lv' := [(0, .ref 118), (1, .int x), (2, .ref f)]) (st' := [.int (8 : Int32), .int x]) (h' := h) 2 rfl E hG
  rcases E_if2 (tg := 29) rfl rfl E with ⟨hc, m3, hm4, E⟩ | ⟨hc, m5, hm6, E⟩
  ·
    have c7 : ¬ x.toInt = 8 := hc
    clear hc
    obtain ⟨m8, hm9, E, hG⟩ := E_go (pc' := 34) (lv' := [(0, .ref 118), (1, .int x), (2, .ref f)]) (st' := [.int (1 : Int32), .int (gi h f 2)]) (h' := h) 3 rfl E hG
    rcases E_if2 (tg := 39) rfl rfl E with ⟨hc, m10, hm11, E⟩ | ⟨hc, m12, hm13, E⟩
    ·
      have c14 : 1 ≤ (gi h f 2).toInt := hc
      clear hc
      obtain ⟨m15, hm16, E, hG⟩ := E_go (pc' := 42) (lv' := [(0, .ref 118), (1, .int x), (2, .ref f)]) (st' := [.int (7 : Int32), .int x]) (h' := h) 2 rfl E hG
      rcases E_if2 (tg := 54) rfl rfl E with ⟨hc, m17, hm18, E⟩ | ⟨hc, m19, hm20, E⟩
      ·
        have c21 : ¬ x.toInt = 7 := hc
        clear hc
        obtain ⟨m22, hm23, E, hG⟩ := E_go (pc' := 55) (lv' := [(0, .ref 118), (1, .int x), (2, .ref f)]) (st' := [.ref f]) (h' := h) 1 rfl E hG
        exact Or.inl ⟨c7, c14, c21, _, (by omega), hG, E⟩
      ·
        have c24 : x.toInt = 7 := Decidable.not_not.mp hc
        clear hc
        obtain ⟨m25, hm26, E, hG⟩ := E_go (pc' := 47) (lv' := [(0, .ref 118), (1, .int x), (2, .ref f)]) (st' := [.ref f, .ref f]) (h' := h) 2 rfl E hG
        obtain ⟨m27, d28, o29, hm31, E30, F30⟩ := E_call (ar := ([.ref f], [.ref f])) rfl rfl rfl rfl rfl rfl E
        replace E30 : rk_ex m27 d28 rm_X0_last 0 [(0, .ref f)] [] h = some o29 := E30
        obtain ⟨m32, hm33, E30, hG⟩ := E_go (pc' := 5) (lv' := [(0, .ref f)]) (st' := [.int (1 : Int32), .int (gi h f 2)]) (h' := h) 3 rfl E30 hG
        rcases E_if2 (tg := 31) rfl rfl E30 with ⟨hc, m34, hm35, E30⟩ | ⟨hc, m36, hm37, E30⟩
        · exact absurd (show (gi h f 2).toInt < 1 from hc) (by omega)
        ·
          clear hc
          obtain ⟨m38, hm39, E30, hG⟩ := E_go (pc' := 14) (lv' := [(0, .ref f)]) (st' := [.int (20 : Int32), .int (gi h f 2)]) (h' := h) 3 rfl E30 hG
          rcases E_if2 (tg := 31) rfl rfl E30 with ⟨hc, m40, hm41, E30⟩ | ⟨hc, m42, hm43, E30⟩
          ·
            have c44 : 20 < (gi h f 2).toInt := hc
            clear hc
            obtain ⟨m45, hm46, E30, hG⟩ := E_go (pc' := 32) (lv' := [(0, .ref f)]) (st' := [.int (0 : Int32)]) (h' := h) 1 rfl E30 hG
            have ho47 := E_reti rfl E30
            subst ho47
            have E : rk_ex m27 d rm_X2_changeEnd 50 [(0, .ref 118), (1, .int x), (2, .ref f)] [.int (0 : Int32), .ref f] h = some o := F30
            exact Or.inr (Or.inl ⟨c7, c14, c24, c44, _, (by omega), hG, E⟩)
          ·
            have c48 : ¬ (20 < (gi h f 2).toInt) := hc
            clear hc
            obtain ⟨m49, hm50, E30, hG⟩ := E_go (pc' := 32) (lv' := [(0, .ref f)]) (st' := [.int (gi h (f + 1 + 1) (((gi h f 2) - (1 : Int32)).toNatClampNeg))]) (h' := h) 8 rfl E30 hG
            try simp only [Nat.add_assoc, Nat.reduceAdd] at E30 hG
            have ho51 := E_reti rfl E30
            subst ho51
            have E : rk_ex m27 d rm_X2_changeEnd 50 [(0, .ref 118), (1, .int x), (2, .ref f)] [.int (gi h (f + 2) (((gi h f 2) - (1 : Int32)).toNatClampNeg)), .ref f] h = some o := F30
            exact Or.inr (Or.inr (Or.inl ⟨c7, c14, c24, c48, _, (by omega), hG, E⟩))
    ·
      have c52 : ¬ (1 ≤ (gi h f 2).toInt) := hc
      clear hc
      obtain ⟨m53, hm54, E, hG⟩ := E_go (pc' := 38) (lv' := [(0, .ref 118), (1, .int x), (2, .ref f)]) (st' := [.int (1 : Int32)]) (h' := h) 1 rfl E hG
      have ho55 := E_reti rfl E
      exact Or.inr (Or.inr (Or.inr (Or.inl ⟨c7, c52, hG, ho55⟩)))
  ·
    have c56 : x.toInt = 8 := Decidable.not_not.mp hc
    clear hc
    obtain ⟨m57, hm58, E, hG⟩ := E_go (pc' := 7) (lv' := [(0, .ref 118), (1, .int x), (2, .ref f)]) (st' := [.ref f]) (h' := h) 1 rfl E hG
    obtain ⟨m59, d60, o61, hm63, E62, F62⟩ := E_call (ar := ([.ref f], [])) rfl rfl rfl rfl rfl rfl E
    replace E62 : rk_ex m59 d60 rm_X0_isFull 0 [(0, .ref f)] [] h = some o61 := E62
    obtain ⟨m64, hm65, E62, hG⟩ := E_go (pc' := 6) (lv' := [(0, .ref f)]) (st' := [.int (20 : Int32), .int (gi h f 2)]) (h' := h) 3 rfl E62 hG
    rcases E_if2 (tg := 13) rfl rfl E62 with ⟨hc, m66, hm67, E62⟩ | ⟨hc, m68, hm69, E62⟩
    ·
      have c70 : (gi h f 2).toInt < 20 := hc
      clear hc
      obtain ⟨m71, hm72, E62, hG⟩ := E_go (pc' := 14) (lv' := [(0, .ref f)]) (st' := [.int (0 : Int32)]) (h' := h) 1 rfl E62 hG
      have ho73 := E_reti rfl E62
      subst ho73
      have E : rk_ex m59 d rm_X2_changeEnd 10 [(0, .ref 118), (1, .int x), (2, .ref f)] [.int (0 : Int32)] h = some o := F62
      rcases E_if1 (tg := 17) rfl rfl E with ⟨hc, m74, hm75, E⟩ | ⟨hc, m76, hm77, E⟩
      ·
        clear hc
        obtain ⟨m78, hm79, E, hG⟩ := E_go (pc' := 22) (lv' := [(0, .ref 118), (1, .int x), (2, .ref f)]) (st' := [.ref 18, .ref f]) (h' := h) 3 rfl E hG
        obtain ⟨m80, d81, o82, hm84, E83, F83⟩ := E_call (ar := ([.ref 18], [.ref f])) rfl rfl rfl rfl rfl rfl E
        replace E83 : rk_ex m80 d81 rm_X6_nextLot 0 [(0, .ref 18)] [] h = some o82 := E83
        obtain ⟨m85, hm86, E83, hG⟩ := E_go (pc' := 20) (lv' := [(0, .ref 18)]) (st' := [.int (((gi (rk_pt h 18 1 (.int (((69069 : Int32) * (gi h 18 1)) + (1 : Int32)))) 18 1).toUInt32 >>> ((16 : Int32).toUInt32 &&& Int32.toUInt32 31)).toInt32)]) (h' := rk_pt h 18 1 (.int (((69069 : Int32) * (gi h 18 1)) + (1 : Int32)))) 12 rfl E83 hG
        try simp only [gi_s, yE_pt, e18] at E83 hG
        have ho87 := E_reti rfl E83
        subst ho87
        have E : rk_ex m80 d rm_X2_changeEnd 25 [(0, .ref 118), (1, .int x), (2, .ref f)] [.int (((((69069 : Int32) * (gi h 18 1)) + (1 : Int32)).toUInt32 >>> ((16 : Int32).toUInt32 &&& Int32.toUInt32 31)).toInt32), .ref f] (rk_pt h 18 1 (.int (((69069 : Int32) * (gi h 18 1)) + (1 : Int32)))) = some o := F83
        exact Or.inr (Or.inr (Or.inr (Or.inr (Or.inl ⟨c56, c70, _, (by omega), hG, E⟩))))
      · exact absurd (show ¬ ((0 : Int) = 0) from hc) (by decide)
    ·
      have c88 : ¬ ((gi h f 2).toInt < 20) := hc
      clear hc
      obtain ⟨m89, hm90, E62, hG⟩ := E_go (pc' := 14) (lv' := [(0, .ref f)]) (st' := [.int (1 : Int32)]) (h' := h) 2 rfl E62 hG
      have ho91 := E_reti rfl E62
      subst ho91
      have E : rk_ex m59 d rm_X2_changeEnd 10 [(0, .ref 118), (1, .int x), (2, .ref f)] [.int (1 : Int32)] h = some o := F62
      rcases E_if1 (tg := 17) rfl rfl E with ⟨hc, m92, hm93, E⟩ | ⟨hc, m94, hm95, E⟩
      · exact absurd (show (1 : Int) = 0 from hc) (by decide)
      ·
        clear hc
        obtain ⟨m96, hm97, E, hG⟩ := E_go (pc' := 28) (lv' := [(0, .ref 118), (1, .int x), (2, .ref f)]) (st' := [.int (2 : Int32)]) (h' := h) 2 rfl E hG
        have ho98 := E_reti rfl E
        exact Or.inr (Or.inr (Or.inr (Or.inr (Or.inr ⟨c56, c88, hG, ho98⟩))))
set_option maxRecDepth 100000 in
set_option maxHeartbeats 4000000 in
theorem yc_ce1 {n d : Nat} {h : rk_S} {o : Option Value × rk_S} {f : Nat} {x y : Int32} (hG : yG h) (hf : 120 ≤ f) (hf2 : f ≤ 153) (E : rk_ex n d rm_X2_changeEnd 58 [(0, .ref 118), (1, .int x), (2, .ref f)] [.int y] h = some o) :
    (yG h ∧ o = (some (.int (0 : Int32)), h)) := by
  obtain ⟨m1, hm2, E, hG⟩ := E_go (pc' := 60) (lv' := [(0, .ref 118), (1, .int x), (2, .ref f)]) (st' := [.int (0 : Int32)]) (h' := h) 2 rfl E hG
  have ho3 := E_reti rfl E
  exact ⟨hG, ho3⟩
set_option maxRecDepth 100000 in
set_option maxHeartbeats 4000000 in
theorem yc_rn1 {n d : Nat} {h : rk_S} {o : Option Value × rk_S} {f : Nat} {x y : Int32} (hG : yG h) (hf : 120 ≤ f) (hf2 : f ≤ 153) (E : rk_ex n d rm_X2_readNumber 30 [(0, .ref 118), (1, .int x), (2, .ref f)] [.int y] h = some o) :
    (yG h ∧ o = (some (.int y), h)) := by
  have ho1 := E_reti rfl E
  exact ⟨hG, ho1⟩
set_option maxRecDepth 100000 in
set_option maxHeartbeats 4000000 in
theorem yc_rs1 {n d : Nat} {h : rk_S} {o : Option Value × rk_S} {f : Nat} {x y : Int32} (hG : yG h) (hf : 120 ≤ f) (hf2 : f ≤ 153) (E : rk_ex n d rm_X2_readStore 33 [(0, .ref 118), (1, .int x), (2, .ref f)] [.int y] h = some o) :
    (yG h ∧ o = (some (.int y), h)) := by
  have ho1 := E_reti rfl E
  exact ⟨hG, ho1⟩
set_option maxRecDepth 100000 in
set_option maxHeartbeats 4000000 in
theorem yc_ws1 {n d : Nat} {h : rk_S} {o : Option Value × rk_S} {f : Nat} {x y : Int32} (hG : yG h) (hf : 120 ≤ f) (hf2 : f ≤ 153) (q1 : ¬ (x.toInt < 0)) (q2 : x.toInt < 16) (E : rk_ex n d rm_X2_writeStore 19 [(0, .ref 118), (1, .int x), (2, .ref f)] [.int y, .int x, .ref 18] h = some o) :
    (yG (rk_pt h 19 x.toNatClampNeg (.int y)) ∧ o = (some (.int (0 : Int32)), rk_pt h 19 x.toNatClampNeg (.int y))) := by
  obtain ⟨m1, d2, o3, hm5, E4, F4⟩ := E_call (ar := ([.ref 18, .int x, .int y], [])) rfl rfl rfl rfl rfl rfl E
  replace E4 : rk_ex m1 d2 rm_X6_setValue 0 [(0, .ref 18), (1, .int x), (2, .int y)] [] h = some o3 := E4
  obtain ⟨m6, hm7, E4, hG⟩ := E_go (pc' := 1) (lv' := [(0, .ref 18), (1, .int x), (2, .int y)]) (st' := [.int x]) (h' := h) 1 rfl E4 hG
  rcases E_if1 (tg := 17) rfl rfl E4 with ⟨hc, m8, hm9, E4⟩ | ⟨hc, m10, hm11, E4⟩
  · exact absurd (show x.toInt < 0 from hc) (by omega)
  ·
    clear hc
    obtain ⟨m12, hm13, E4, hG⟩ := E_go (pc' := 7) (lv' := [(0, .ref 18), (1, .int x), (2, .int y)]) (st' := [.int (16 : Int32), .int x]) (h' := h) 2 rfl E4 hG
    rcases E_if2 (tg := 17) rfl rfl E4 with ⟨hc, m14, hm15, E4⟩ | ⟨hc, m16, hm17, E4⟩
    · exact absurd (show 16 ≤ x.toInt from hc) (by omega)
    ·
      clear hc
      obtain ⟨m18, hm19, E4, hG⟩ := E_go (pc' := 17) (lv' := [(0, .ref 18), (1, .int x), (2, .int y)]) (st' := []) (h' := rk_pt h 19 x.toNatClampNeg (.int y)) 5 rfl E4 hG
      have ho20 := E_retv rfl E4
      subst ho20
      have E : rk_ex m1 d rm_X2_writeStore 22 [(0, .ref 118), (1, .int x), (2, .ref f)] [] (rk_pt h 19 x.toNatClampNeg (.int y)) = some o := F4
      obtain ⟨m21, hm22, E, hG⟩ := E_go (pc' := 23) (lv' := [(0, .ref 118), (1, .int x), (2, .ref f)]) (st' := [.int (0 : Int32)]) (h' := rk_pt h 19 x.toNatClampNeg (.int y)) 1 rfl E hG
      have ho23 := E_reti rfl E
      exact ⟨hG, ho23⟩
set_option maxRecDepth 100000 in
set_option maxHeartbeats 4000000 in
theorem yc_cb_64 {n d : Nat} {h : rk_S} {o : Option Value × rk_S} {f : Nat} {x y z w : Int32} (hG : yG h) (hf : 120 ≤ f) (hf2 : f ≤ 153) (E : rk_ex n d rm_X2_combine 64 [(4, .int z), (3, .int w), (0, .ref 118), (1, .int x), (2, .ref f)] [.int y] h = some o) :
    (yG h ∧ o = (some (.int y), h)) := by
  have ho1 := E_reti rfl E
  exact ⟨hG, ho1⟩
set_option maxRecDepth 100000 in
set_option maxHeartbeats 4000000 in
theorem yc_cb_73 {n d : Nat} {h : rk_S} {o : Option Value × rk_S} {f : Nat} {x y z w : Int32} (hG : yG h) (hf : 120 ≤ f) (hf2 : f ≤ 153) (E : rk_ex n d rm_X2_combine 73 [(4, .int z), (3, .int w), (0, .ref 118), (1, .int x), (2, .ref f)] [.int y] h = some o) :
    (yG h ∧ o = (some (.int y), h)) := by
  have ho1 := E_reti rfl E
  exact ⟨hG, ho1⟩
set_option maxRecDepth 100000 in
set_option maxHeartbeats 4000000 in
theorem yc_cb_82 {n d : Nat} {h : rk_S} {o : Option Value × rk_S} {f : Nat} {x y z w : Int32} (hG : yG h) (hf : 120 ≤ f) (hf2 : f ≤ 153) (E : rk_ex n d rm_X2_combine 82 [(4, .int z), (3, .int w), (0, .ref 118), (1, .int x), (2, .ref f)] [.int y] h = some o) :
    (yG h ∧ o = (some (.int y), h)) := by
  have ho1 := E_reti rfl E
  exact ⟨hG, ho1⟩
set_option maxRecDepth 100000 in
set_option maxHeartbeats 4000000 in
theorem yc_cb_99 {n d : Nat} {h : rk_S} {o : Option Value × rk_S} {f : Nat} {x y z w : Int32} (hG : yG h) (hf : 120 ≤ f) (hf2 : f ≤ 153) (E : rk_ex n d rm_X2_combine 99 [(4, .int z), (3, .int w), (0, .ref 118), (1, .int x), (2, .ref f)] [.int y] h = some o) :
    (yG h ∧ o = (some (.int y), h)) := by
  have ho1 := E_reti rfl E
  exact ⟨hG, ho1⟩
set_option maxRecDepth 100000 in
set_option maxHeartbeats 4000000 in
theorem yc_cb_115 {n d : Nat} {h : rk_S} {o : Option Value × rk_S} {f : Nat} {x y z w : Int32} (hG : yG h) (hf : 120 ≤ f) (hf2 : f ≤ 153) (E : rk_ex n d rm_X2_combine 115 [(4, .int z), (3, .int w), (0, .ref 118), (1, .int x), (2, .ref f)] [.int y] h = some o) :
    (yG h ∧ o = (some (.int y), h)) := by
  have ho1 := E_reti rfl E
  exact ⟨hG, ho1⟩
set_option maxRecDepth 100000 in
set_option maxHeartbeats 4000000 in
theorem yc_cb_131 {n d : Nat} {h : rk_S} {o : Option Value × rk_S} {f : Nat} {x y z w : Int32} (hG : yG h) (hf : 120 ≤ f) (hf2 : f ≤ 153) (E : rk_ex n d rm_X2_combine 131 [(4, .int z), (3, .int w), (0, .ref 118), (1, .int x), (2, .ref f)] [.int y] h = some o) :
    (yG h ∧ o = (some (.int y), h)) := by
  have ho1 := E_reti rfl E
  exact ⟨hG, ho1⟩
set_option maxRecDepth 100000 in
set_option maxHeartbeats 4000000 in
theorem yc_ce_28 {n d : Nat} {h : rk_S} {o : Option Value × rk_S} {f : Nat} {x y : Int32} (hG : yG h) (hf : 120 ≤ f) (hf2 : f ≤ 153) (E : rk_ex n d rm_X2_changeEnd 28 [(0, .ref 118), (1, .int x), (2, .ref f)] [.int y] h = some o) :
    (yG h ∧ o = (some (.int y), h)) := by
  have ho1 := E_reti rfl E
  exact ⟨hG, ho1⟩
set_option maxRecDepth 100000 in
set_option maxHeartbeats 4000000 in
theorem yc_ce_53 {n d : Nat} {h : rk_S} {o : Option Value × rk_S} {f : Nat} {x y : Int32} (hG : yG h) (hf : 120 ≤ f) (hf2 : f ≤ 153) (E : rk_ex n d rm_X2_changeEnd 53 [(0, .ref 118), (1, .int x), (2, .ref f)] [.int y] h = some o) :
    (yG h ∧ o = (some (.int y), h)) := by
  have ho1 := E_reti rfl E
  exact ⟨hG, ho1⟩
set_option maxRecDepth 100000 in
set_option maxHeartbeats 4000000 in
theorem yc_pf {n d : Nat} {h : rk_S} {o : Option Value × rk_S} {f : Nat} {c t : Int32} (hG : yG h) (hf : 120 ≤ f) (hf2 : f ≤ 153) (E : rk_ex n d rm_X2_perform 0 [(0, .ref 118), (1, .int c), (2, .ref f), (3, .int t)] [] h = some o) :
    ((c / (100 : Int32)).toInt < 0 ∧ 6 ≤ (c - c / (100 : Int32) * (100 : Int32)).toInt ∧ ∃ m, m < n + 1 ∧ yG h ∧ rk_ex m d rm_X2_perform 105 [(4, .int (c - c / (100 : Int32) * (100 : Int32))), (0, .ref 118), (1, .int c), (2, .ref f), (3, .int t)] [.ref f, .int (c - c / (100 : Int32) * (100 : Int32)), .ref 118] h = some o) ∨
    ((c / (100 : Int32)).toInt < 0 ∧ ¬ (6 ≤ (c - c / (100 : Int32) * (100 : Int32)).toInt) ∧ ∃ m, m < n + 1 ∧ yG h ∧ rk_ex m d rm_X2_perform 95 [(4, .int (c - c / (100 : Int32) * (100 : Int32))), (0, .ref 118), (1, .int c), (2, .ref f), (3, .int t)] [.ref f, .int (c - c / (100 : Int32) * (100 : Int32)), .ref 118] h = some o) ∨
    (4 < (c / (100 : Int32)).toInt ∧ 6 ≤ (c - c / (100 : Int32) * (100 : Int32)).toInt ∧ ∃ m, m < n + 1 ∧ yG h ∧ rk_ex m d rm_X2_perform 105 [(4, .int (c - c / (100 : Int32) * (100 : Int32))), (0, .ref 118), (1, .int c), (2, .ref f), (3, .int t)] [.ref f, .int (c - c / (100 : Int32) * (100 : Int32)), .ref 118] h = some o) ∨
    (4 < (c / (100 : Int32)).toInt ∧ ¬ (6 ≤ (c - c / (100 : Int32) * (100 : Int32)).toInt) ∧ ∃ m, m < n + 1 ∧ yG h ∧ rk_ex m d rm_X2_perform 95 [(4, .int (c - c / (100 : Int32) * (100 : Int32))), (0, .ref 118), (1, .int c), (2, .ref f), (3, .int t)] [.ref f, .int (c - c / (100 : Int32) * (100 : Int32)), .ref 118] h = some o) ∨
    ((c / (100 : Int32)).toInt = 0 ∧ ∃ m, m < n + 1 ∧ yG h ∧ rk_ex m d rm_X2_perform 47 [(4, .int (c - c / (100 : Int32) * (100 : Int32))), (0, .ref 118), (1, .int c), (2, .ref f), (3, .int t)] [.int (c - c / (100 : Int32) * (100 : Int32)), .ref f] h = some o) ∨
    ((c / (100 : Int32)).toInt = 1 ∧ ∃ m, m < n + 1 ∧ yG h ∧ rk_ex m d rm_X2_perform 55 [(4, .int (c - c / (100 : Int32) * (100 : Int32))), (0, .ref 118), (1, .int c), (2, .ref f), (3, .int t)] [.ref f, .int (c - c / (100 : Int32) * (100 : Int32)), .ref 118] h = some o) ∨
    ((c / (100 : Int32)).toInt = 2 ∧ ∃ m, m < n + 1 ∧ yG h ∧ rk_ex m d rm_X2_perform 63 [(4, .int (c - c / (100 : Int32) * (100 : Int32))), (0, .ref 118), (1, .int c), (2, .ref f), (3, .int t)] [.ref f, .int (c - c / (100 : Int32) * (100 : Int32)), .ref 118] h = some o) ∨
    ((c / (100 : Int32)).toInt = 3 ∧ ∃ m, m < n + 1 ∧ yG h ∧ rk_ex m d rm_X2_perform 71 [(4, .int (c - c / (100 : Int32) * (100 : Int32))), (0, .ref 118), (1, .int c), (2, .ref f), (3, .int t)] [.ref f, .int (c - c / (100 : Int32) * (100 : Int32)), .ref 118] h = some o) ∨
    ((c / (100 : Int32)).toInt = 4 ∧ ∃ m, m < n + 1 ∧ yG h ∧ rk_ex m d rm_X2_perform 80 [(4, .int (c - c / (100 : Int32) * (100 : Int32))), (0, .ref 118), (1, .int c), (2, .ref f), (3, .int t)] [.int t, .ref f, .int (c - c / (100 : Int32) * (100 : Int32)), .ref 118] h = some o) := by
  obtain ⟨m1, hm2, E, hG⟩ := E_go (pc' := 10) (lv' := [(4, .int (c - c / (100 : Int32) * (100 : Int32))), (0, .ref 118), (1, .int c), (2, .ref f), (3, .int t)]) (st' := [.int (c / (100 : Int32))]) (h' := h) 7 rfl E hG
  rcases (show (c / (100 : Int32)).toInt < 0 ∨ 4 < (c / (100 : Int32)).toInt ∨ (c / (100 : Int32)).toInt = 0 ∨ (c / (100 : Int32)).toInt = 1 ∨ (c / (100 : Int32)).toInt = 2 ∨ (c / (100 : Int32)).toInt = 3 ∨ (c / (100 : Int32)).toInt = 4 by omega) with hc | hc | hc | hc | hc | hc | hc
  ·
    have c3 : (c / (100 : Int32)).toInt < 0 := hc
    clear hc
    obtain ⟨m4, hm5, E⟩ := E_swd (tg := 84) rfl (Or.inl c3) rfl E
    obtain ⟨m6, hm7, E, hG⟩ := E_go (pc' := 88) (lv' := [(4, .int (c - c / (100 : Int32) * (100 : Int32))), (0, .ref 118), (1, .int c), (2, .ref f), (3, .int t)]) (st' := [.int (6 : Int32), .int (c - c / (100 : Int32) * (100 : Int32))]) (h' := h) 2 rfl E hG
    rcases E_if2 (tg := 101) rfl rfl E with ⟨hc, m8, hm9, E⟩ | ⟨hc, m10, hm11, E⟩
    ·
      have c12 : 6 ≤ (c - c / (100 : Int32) * (100 : Int32)).toInt := hc
      clear hc
      obtain ⟨m13, hm14, E, hG⟩ := E_go (pc' := 105) (lv' := [(4, .int (c - c / (100 : Int32) * (100 : Int32))), (0, .ref 118), (1, .int c), (2, .ref f), (3, .int t)]) (st' := [.ref f, .int (c - c / (100 : Int32) * (100 : Int32)), .ref 118]) (h' := h) 3 rfl E hG
      exact Or.inl ⟨c3, c12, _, (by omega), hG, E⟩
    ·
      have c15 : ¬ (6 ≤ (c - c / (100 : Int32) * (100 : Int32)).toInt) := hc
      clear hc
      obtain ⟨m16, hm17, E, hG⟩ := E_go (pc' := 95) (lv' := [(4, .int (c - c / (100 : Int32) * (100 : Int32))), (0, .ref 118), (1, .int c), (2, .ref f), (3, .int t)]) (st' := [.ref f, .int (c - c / (100 : Int32) * (100 : Int32)), .ref 118]) (h' := h) 3 rfl E hG
      exact Or.inr (Or.inl ⟨c3, c15, _, (by omega), hG, E⟩)
  ·
    have c18 : 4 < (c / (100 : Int32)).toInt := hc
    clear hc
    obtain ⟨m19, hm20, E⟩ := E_swd (tg := 84) rfl (Or.inr c18) rfl E
    obtain ⟨m21, hm22, E, hG⟩ := E_go (pc' := 88) (lv' := [(4, .int (c - c / (100 : Int32) * (100 : Int32))), (0, .ref 118), (1, .int c), (2, .ref f), (3, .int t)]) (st' := [.int (6 : Int32), .int (c - c / (100 : Int32) * (100 : Int32))]) (h' := h) 2 rfl E hG
    rcases E_if2 (tg := 101) rfl rfl E with ⟨hc, m23, hm24, E⟩ | ⟨hc, m25, hm26, E⟩
    ·
      have c27 : 6 ≤ (c - c / (100 : Int32) * (100 : Int32)).toInt := hc
      clear hc
      obtain ⟨m28, hm29, E, hG⟩ := E_go (pc' := 105) (lv' := [(4, .int (c - c / (100 : Int32) * (100 : Int32))), (0, .ref 118), (1, .int c), (2, .ref f), (3, .int t)]) (st' := [.ref f, .int (c - c / (100 : Int32) * (100 : Int32)), .ref 118]) (h' := h) 3 rfl E hG
      exact Or.inr (Or.inr (Or.inl ⟨c18, c27, _, (by omega), hG, E⟩))
    ·
      have c30 : ¬ (6 ≤ (c - c / (100 : Int32) * (100 : Int32)).toInt) := hc
      clear hc
      obtain ⟨m31, hm32, E, hG⟩ := E_go (pc' := 95) (lv' := [(4, .int (c - c / (100 : Int32) * (100 : Int32))), (0, .ref 118), (1, .int c), (2, .ref f), (3, .int t)]) (st' := [.ref f, .int (c - c / (100 : Int32) * (100 : Int32)), .ref 118]) (h' := h) 3 rfl E hG
      exact Or.inr (Or.inr (Or.inr (Or.inl ⟨c18, c30, _, (by omega), hG, E⟩)))
  ·
    have c33 : (c / (100 : Int32)).toInt = 0 := hc
    clear hc
    obtain ⟨m34, hm35, E⟩ := E_swi (tg := 44) rfl c33 (by decide) (by decide) rfl rfl E
    obtain ⟨m36, hm37, E, hG⟩ := E_go (pc' := 47) (lv' := [(4, .int (c - c / (100 : Int32) * (100 : Int32))), (0, .ref 118), (1, .int c), (2, .ref f), (3, .int t)]) (st' := [.int (c - c / (100 : Int32) * (100 : Int32)), .ref f]) (h' := h) 2 rfl E hG
    exact Or.inr (Or.inr (Or.inr (Or.inr (Or.inl ⟨c33, _, (by omega), hG, E⟩))))
  ·
    have c38 : (c / (100 : Int32)).toInt = 1 := hc
    clear hc
    obtain ⟨m39, hm40, E⟩ := E_swi (tg := 51) rfl c38 (by decide) (by decide) rfl rfl E
    obtain ⟨m41, hm42, E, hG⟩ := E_go (pc' := 55) (lv' := [(4, .int (c - c / (100 : Int32) * (100 : Int32))), (0, .ref 118), (1, .int c), (2, .ref f), (3, .int t)]) (st' := [.ref f, .int (c - c / (100 : Int32) * (100 : Int32)), .ref 118]) (h' := h) 3 rfl E hG
    exact Or.inr (Or.inr (Or.inr (Or.inr (Or.inr (Or.inl ⟨c38, _, (by omega), hG, E⟩)))))
  ·
    have c43 : (c / (100 : Int32)).toInt = 2 := hc
    clear hc
    obtain ⟨m44, hm45, E⟩ := E_swi (tg := 59) rfl c43 (by decide) (by decide) rfl rfl E
    obtain ⟨m46, hm47, E, hG⟩ := E_go (pc' := 63) (lv' := [(4, .int (c - c / (100 : Int32) * (100 : Int32))), (0, .ref 118), (1, .int c), (2, .ref f), (3, .int t)]) (st' := [.ref f, .int (c - c / (100 : Int32) * (100 : Int32)), .ref 118]) (h' := h) 3 rfl E hG
    exact Or.inr (Or.inr (Or.inr (Or.inr (Or.inr (Or.inr (Or.inl ⟨c43, _, (by omega), hG, E⟩))))))
  ·
    have c48 : (c / (100 : Int32)).toInt = 3 := hc
    clear hc
    obtain ⟨m49, hm50, E⟩ := E_swi (tg := 67) rfl c48 (by decide) (by decide) rfl rfl E
    obtain ⟨m51, hm52, E, hG⟩ := E_go (pc' := 71) (lv' := [(4, .int (c - c / (100 : Int32) * (100 : Int32))), (0, .ref 118), (1, .int c), (2, .ref f), (3, .int t)]) (st' := [.ref f, .int (c - c / (100 : Int32) * (100 : Int32)), .ref 118]) (h' := h) 3 rfl E hG
    exact Or.inr (Or.inr (Or.inr (Or.inr (Or.inr (Or.inr (Or.inr (Or.inl ⟨c48, _, (by omega), hG, E⟩)))))))
  ·
    have c53 : (c / (100 : Int32)).toInt = 4 := hc
    clear hc
    obtain ⟨m54, hm55, E⟩ := E_swi (tg := 75) rfl c53 (by decide) (by decide) rfl rfl E
    obtain ⟨m56, hm57, E, hG⟩ := E_go (pc' := 80) (lv' := [(4, .int (c - c / (100 : Int32) * (100 : Int32))), (0, .ref 118), (1, .int c), (2, .ref f), (3, .int t)]) (st' := [.int t, .ref f, .int (c - c / (100 : Int32) * (100 : Int32)), .ref 118]) (h' := h) 4 rfl E hG
    exact Or.inr (Or.inr (Or.inr (Or.inr (Or.inr (Or.inr (Or.inr (Or.inr ⟨c53, _, (by omega), hG, E⟩)))))))
set_option maxRecDepth 100000 in
set_option maxHeartbeats 4000000 in
theorem yc_pf_50 {n d : Nat} {h : rk_S} {o : Option Value × rk_S} {f : Nat} {c t x y : Int32} (hG : yG h) (hf : 120 ≤ f) (hf2 : f ≤ 153) (E : rk_ex n d rm_X2_perform 50 [(4, .int x), (0, .ref 118), (1, .int c), (2, .ref f), (3, .int t)] [.int y] h = some o) :
    (yG h ∧ o = (some (.int y), h)) := by
  have ho1 := E_reti rfl E
  exact ⟨hG, ho1⟩
set_option maxRecDepth 100000 in
set_option maxHeartbeats 4000000 in
theorem yc_pf_58 {n d : Nat} {h : rk_S} {o : Option Value × rk_S} {f : Nat} {c t x y : Int32} (hG : yG h) (hf : 120 ≤ f) (hf2 : f ≤ 153) (E : rk_ex n d rm_X2_perform 58 [(4, .int x), (0, .ref 118), (1, .int c), (2, .ref f), (3, .int t)] [.int y] h = some o) :
    (yG h ∧ o = (some (.int y), h)) := by
  have ho1 := E_reti rfl E
  exact ⟨hG, ho1⟩
set_option maxRecDepth 100000 in
set_option maxHeartbeats 4000000 in
theorem yc_pf_66 {n d : Nat} {h : rk_S} {o : Option Value × rk_S} {f : Nat} {c t x y : Int32} (hG : yG h) (hf : 120 ≤ f) (hf2 : f ≤ 153) (E : rk_ex n d rm_X2_perform 66 [(4, .int x), (0, .ref 118), (1, .int c), (2, .ref f), (3, .int t)] [.int y] h = some o) :
    (yG h ∧ o = (some (.int y), h)) := by
  have ho1 := E_reti rfl E
  exact ⟨hG, ho1⟩
set_option maxRecDepth 100000 in
set_option maxHeartbeats 4000000 in
theorem yc_pf_74 {n d : Nat} {h : rk_S} {o : Option Value × rk_S} {f : Nat} {c t x y : Int32} (hG : yG h) (hf : 120 ≤ f) (hf2 : f ≤ 153) (E : rk_ex n d rm_X2_perform 74 [(4, .int x), (0, .ref 118), (1, .int c), (2, .ref f), (3, .int t)] [.int y] h = some o) :
    (yG h ∧ o = (some (.int y), h)) := by
  have ho1 := E_reti rfl E
  exact ⟨hG, ho1⟩
set_option maxRecDepth 100000 in
set_option maxHeartbeats 4000000 in
theorem yc_pf_83 {n d : Nat} {h : rk_S} {o : Option Value × rk_S} {f : Nat} {c t x y : Int32} (hG : yG h) (hf : 120 ≤ f) (hf2 : f ≤ 153) (E : rk_ex n d rm_X2_perform 83 [(4, .int x), (0, .ref 118), (1, .int c), (2, .ref f), (3, .int t)] [.int y] h = some o) :
    (yG h ∧ o = (some (.int y), h)) := by
  have ho1 := E_reti rfl E
  exact ⟨hG, ho1⟩
set_option maxRecDepth 100000 in
set_option maxHeartbeats 4000000 in
theorem yc_pf_98 {n d : Nat} {h : rk_S} {o : Option Value × rk_S} {f : Nat} {c t x y : Int32} (hG : yG h) (hf : 120 ≤ f) (hf2 : f ≤ 153) (E : rk_ex n d rm_X2_perform 98 [(4, .int x), (0, .ref 118), (1, .int c), (2, .ref f), (3, .int t)] [.int y] h = some o) :
    (yG h ∧ o = (some (.int y), h)) := by
  obtain ⟨m1, hm2, E, hG⟩ := E_go (pc' := 108) (lv' := [(4, .int x), (0, .ref 118), (1, .int c), (2, .ref f), (3, .int t)]) (st' := [.int y]) (h' := h) 1 rfl E hG
  have ho3 := E_reti rfl E
  exact ⟨hG, ho3⟩
set_option maxRecDepth 100000 in
set_option maxHeartbeats 4000000 in
theorem yc_pf_108 {n d : Nat} {h : rk_S} {o : Option Value × rk_S} {f : Nat} {c t x y : Int32} (hG : yG h) (hf : 120 ≤ f) (hf2 : f ≤ 153) (E : rk_ex n d rm_X2_perform 108 [(4, .int x), (0, .ref 118), (1, .int c), (2, .ref f), (3, .int t)] [.int y] h = some o) :
    (yG h ∧ o = (some (.int y), h)) := by
  have ho1 := E_reti rfl E
  exact ⟨hG, ho1⟩
set_option maxRecDepth 100000 in
set_option maxHeartbeats 4000000 in
theorem yc_wk0 {n d : Nat} {h : rk_S} {o : Option Value × rk_S} {f : Nat} {r t : Int32} (hG : yG h) (hf : 120 ≤ f) (hf2 : f ≤ 153) (q1 : ¬ (r.toInt < 0)) (q2 : ¬ ((gi h 2 5).toInt ≤ r.toInt)) (E : rk_ex n d rm_X2_walk 0 [(0, .ref 118), (1, .int r), (2, .ref f), (3, .int t)] [] h = some o) :
    (∃ m, m < n ∧ yG h ∧ rk_ex m d rm_X2_walk 13 [(0, .ref 118), (1, .int r), (2, .ref f), (3, .int t), (4, .int (gi h 14 r.toNatClampNeg)), (5, .int (0 : Int32)), (6, .int (0 : Int32)), (7, .int (0 : Int32))] [] h = some o) := by
  obtain ⟨m1, hm2, E, hG⟩ := E_go (pc' := 5) (lv' := [(0, .ref 118), (1, .int r), (2, .ref f), (3, .int t)]) (st' := [.int r, .ref 2]) (h' := h) 3 rfl E hG
  obtain ⟨m3, d4, o5, hm7, E6, F6⟩ := E_call (ar := ([.ref 2, .int r], [])) rfl rfl rfl rfl rfl rfl E
  replace E6 : rk_ex m3 d4 rm_X3_lengthOf 0 [(0, .ref 2), (1, .int r)] [] h = some o5 := E6
  obtain ⟨m8, hm9, E6, hG⟩ := E_go (pc' := 2) (lv' := [(0, .ref 2), (1, .int r)]) (st' := [.int r, .ref 2]) (h' := h) 2 rfl E6 hG
  obtain ⟨m10, d11, o12, hm14, E13, F13⟩ := E_call (ar := ([.ref 2, .int r], [])) rfl rfl rfl rfl rfl rfl E6
  replace E13 : rk_ex m10 d11 rm_X3_hasRoutine 0 [(0, .ref 2), (1, .int r)] [] h = some o12 := E13
  obtain ⟨m15, hm16, E13, hG⟩ := E_go (pc' := 1) (lv' := [(0, .ref 2), (1, .int r)]) (st' := [.int r]) (h' := h) 1 rfl E13 hG
  rcases E_if1 (tg := 16) rfl rfl E13 with ⟨hc, m17, hm18, E13⟩ | ⟨hc, m19, hm20, E13⟩
  · exact absurd (show r.toInt < 0 from hc) (by omega)
  ·
    clear hc
    obtain ⟨m21, hm22, E13, hG⟩ := E_go (pc' := 9) (lv' := [(0, .ref 2), (1, .int r)]) (st' := [.int (gi h 2 5), .int r]) (h' := h) 3 rfl E13 hG
    rcases E_if2 (tg := 16) rfl rfl E13 with ⟨hc, m23, hm24, E13⟩ | ⟨hc, m25, hm26, E13⟩
    · exact absurd hc q2
    ·
      clear hc
      obtain ⟨m27, hm28, E13, hG⟩ := E_go (pc' := 17) (lv' := [(0, .ref 2), (1, .int r)]) (st' := [.int (1 : Int32)]) (h' := h) 2 rfl E13 hG
      have ho29 := E_reti rfl E13
      subst ho29
      have E6 : rk_ex m10 d4 rm_X3_lengthOf 5 [(0, .ref 2), (1, .int r)] [.int (1 : Int32)] h = some o5 := F13
      rcases E_if1 (tg := 17) rfl rfl E6 with ⟨hc, m30, hm31, E6⟩ | ⟨hc, m32, hm33, E6⟩
      · exact absurd (show (1 : Int) = 0 from hc) (by decide)
      ·
        clear hc
        obtain ⟨m34, hm35, E6, hG⟩ := E_go (pc' := 18) (lv' := [(0, .ref 2), (1, .int r)]) (st' := [.int (gi h 14 r.toNatClampNeg)]) (h' := h) 5 rfl E6 hG
        have ho36 := E_reti rfl E6
        subst ho36
        have E : rk_ex m3 d rm_X2_walk 8 [(0, .ref 118), (1, .int r), (2, .ref f), (3, .int t)] [.int (gi h 14 r.toNatClampNeg)] h = some o := F6
        obtain ⟨m37, hm38, E, hG⟩ := E_go (pc' := 13) (lv' := [(5, .int (0 : Int32)), (4, .int (gi h 14 r.toNatClampNeg)), (0, .ref 118), (1, .int r), (2, .ref f), (3, .int t)]) (st' := []) (h' := h) 3 rfl E hG
        replace E := E_lv [(0, .ref 118), (1, .int r), (2, .ref f), (3, .int t), (4, .int (gi h 14 r.toNatClampNeg)), (5, .int (0 : Int32)), (6, .int (0 : Int32)), (7, .int (0 : Int32))] rfl (lvs_c rfl rfl (lvs_c rfl rfl (lvs_c rfl rfl (lvs_c rfl rfl (lvs_c rfl rfl (lvs_c rfl rfl lvs_n)))))) E
        exact ⟨_, (by omega), hG, E⟩
set_option maxRecDepth 100000 in
set_option maxHeartbeats 4000000 in
theorem yc_wk {n d : Nat} {h : rk_S} {o : Option Value × rk_S} {f : Nat} {r t p c e : Int32} (hG : yG h) (hf : 120 ≤ f) (hf2 : f ≤ 153) (q0 : r.toNatClampNeg < 10) (q1 : ¬ (r.toInt < 0)) (q2 : ¬ ((gi h 2 5).toInt ≤ r.toInt)) (q3 : ¬ (p.toInt < 0)) (E : rk_ex n d rm_X2_walk 13 [(0, .ref 118), (1, .int r), (2, .ref f), (3, .int t), (4, .int (gi h 14 r.toNatClampNeg)), (5, .int p), (6, .int c), (7, .int e)] [] h = some o) :
    ((gi h 14 r.toNatClampNeg).toInt ≤ p.toInt ∧ ∃ m, m < n + 1 ∧ yG h ∧ rk_ex m d rm_X2_walk 130 [(0, .ref 118), (1, .int r), (2, .ref f), (3, .int t), (4, .int (gi h 14 r.toNatClampNeg)), (5, .int p), (6, .int c), (7, .int e)] [.ref f, .ref f] h = some o) ∨
    (¬ ((gi h 14 r.toNatClampNeg).toInt ≤ p.toInt) ∧ (gi h 118 5).toInt < 2000 ∧ ((gi h (4 + r.toNatClampNeg) p.toNatClampNeg) / (100 : Int32)).toInt = 6 ∧ 1 ≤ (gi h f 2).toInt ∧ ∃ m, m < n + 1 ∧ yG (rk_pt (rk_pt h 118 5 (.int ((gi h 118 5) + (1 : Int32)))) 118 6 (.int ((gi h 118 6) + (1 : Int32)))) ∧ rk_ex m d rm_X2_walk 106 [(6, .int (gi h (4 + r.toNatClampNeg) p.toNatClampNeg)), (0, .ref 118), (1, .int r), (2, .ref f), (3, .int t), (4, .int (gi h 14 r.toNatClampNeg)), (5, .int p), (7, .int e)] [.ref f] (rk_pt (rk_pt h 118 5 (.int ((gi h 118 5) + (1 : Int32)))) 118 6 (.int ((gi h 118 6) + (1 : Int32)))) = some o) ∨
    (¬ ((gi h 14 r.toNatClampNeg).toInt ≤ p.toInt) ∧ (gi h 118 5).toInt < 2000 ∧ ((gi h (4 + r.toNatClampNeg) p.toNatClampNeg) / (100 : Int32)).toInt = 6 ∧ ¬ (1 ≤ (gi h f 2).toInt) ∧ yG (rk_pt (rk_pt h 118 5 (.int ((gi h 118 5) + (1 : Int32)))) 118 6 (.int ((gi h 118 6) + (1 : Int32)))) ∧ o = (some (.int (1 : Int32)), rk_pt (rk_pt h 118 5 (.int ((gi h 118 5) + (1 : Int32)))) 118 6 (.int ((gi h 118 6) + (1 : Int32))))) ∨
    (¬ ((gi h 14 r.toNatClampNeg).toInt ≤ p.toInt) ∧ (gi h 118 5).toInt < 2000 ∧ ¬ (((gi h (4 + r.toNatClampNeg) p.toNatClampNeg) / (100 : Int32)).toInt = 6) ∧ ∃ m, m < n + 1 ∧ yG (rk_pt (rk_pt h 118 5 (.int ((gi h 118 5) + (1 : Int32)))) 118 6 (.int ((gi h 118 6) + (1 : Int32)))) ∧ rk_ex m d rm_X2_walk 79 [(6, .int (gi h (4 + r.toNatClampNeg) p.toNatClampNeg)), (0, .ref 118), (1, .int r), (2, .ref f), (3, .int t), (4, .int (gi h 14 r.toNatClampNeg)), (5, .int p), (7, .int e)] [.int t, .ref f, .int (gi h (4 + r.toNatClampNeg) p.toNatClampNeg), .ref 118] (rk_pt (rk_pt h 118 5 (.int ((gi h 118 5) + (1 : Int32)))) 118 6 (.int ((gi h 118 6) + (1 : Int32)))) = some o) ∨
    (¬ ((gi h 14 r.toNatClampNeg).toInt ≤ p.toInt) ∧ ¬ ((gi h 118 5).toInt < 2000) ∧ yG h ∧ o = (some (.int (5 : Int32)), h)) := by
  obtain ⟨m1, hm2, E, hG⟩ := E_go (pc' := 17) (lv' := [(0, .ref 118), (1, .int r), (2, .ref f), (3, .int t), (4, .int (gi h 14 r.toNatClampNeg)), (5, .int p), (6, .int c), (7, .int e)]) (st' := [.int (gi h 14 r.toNatClampNeg), .int p]) (h' := h) 2 rfl E hG
  rcases E_if2 (tg := 128) rfl rfl E with ⟨hc, m3, hm4, E⟩ | ⟨hc, m5, hm6, E⟩
  ·
    have c7 : (gi h 14 r.toNatClampNeg).toInt ≤ p.toInt := hc
    clear hc
    obtain ⟨m8, hm9, E, hG⟩ := E_go (pc' := 130) (lv' := [(0, .ref 118), (1, .int r), (2, .ref f), (3, .int t), (4, .int (gi h 14 r.toNatClampNeg)), (5, .int p), (6, .int c), (7, .int e)]) (st' := [.ref f, .ref f]) (h' := h) 2 rfl E hG
    exact Or.inl ⟨c7, _, (by omega), hG, E⟩
  ·
    have c10 : ¬ ((gi h 14 r.toNatClampNeg).toInt ≤ p.toInt) := hc
    clear hc
    obtain ⟨m11, hm12, E, hG⟩ := E_go (pc' := 27) (lv' := [(0, .ref 118), (1, .int r), (2, .ref f), (3, .int t), (4, .int (gi h 14 r.toNatClampNeg)), (5, .int p), (6, .int c), (7, .int e)]) (st' := [.int (2000 : Int32), .int (gi h 118 5)]) (h' := h) 3 rfl E hG
    rcases E_if2 (tg := 32) rfl rfl E with ⟨hc, m13, hm14, E⟩ | ⟨hc, m15, hm16, E⟩
    ·
      have c17 : (gi h 118 5).toInt < 2000 := hc
      clear hc
      obtain ⟨m18, hm19, E, hG⟩ := E_go (pc' := 59) (lv' := [(0, .ref 118), (1, .int r), (2, .ref f), (3, .int t), (4, .int (gi h 14 r.toNatClampNeg)), (5, .int p), (6, .int c), (7, .int e)]) (st' := [.int p, .int r, .ref 2]) (h' := rk_pt (rk_pt h 118 5 (.int ((gi h 118 5) + (1 : Int32)))) 118 6 (.int ((gi (rk_pt h 118 5 (.int ((gi h 118 5) + (1 : Int32)))) 118 6) + (1 : Int32)))) 16 rfl E hG
      try simp only [gi_y (k := 5) (k' := 6) (by decide)] at E hG
      obtain ⟨m20, d21, o22, hm24, E23, F23⟩ := E_call (ar := ([.ref 2, .int r, .int p], [])) rfl rfl rfl rfl rfl rfl E
      replace E23 : rk_ex m20 d21 rm_X3_codeOf 0 [(0, .ref 2), (1, .int r), (2, .int p)] [] (rk_pt (rk_pt h 118 5 (.int ((gi h 118 5) + (1 : Int32)))) 118 6 (.int ((gi h 118 6) + (1 : Int32)))) = some o22 := E23
      obtain ⟨m25, hm26, E23, hG⟩ := E_go (pc' := 1) (lv' := [(0, .ref 2), (1, .int r), (2, .int p)]) (st' := [.int p]) (h' := rk_pt (rk_pt h 118 5 (.int ((gi h 118 5) + (1 : Int32)))) 118 6 (.int ((gi h 118 6) + (1 : Int32)))) 1 rfl E23 hG
      rcases E_if1 (tg := 24) rfl rfl E23 with ⟨hc, m27, hm28, E23⟩ | ⟨hc, m29, hm30, E23⟩
      · exact absurd (show p.toInt < 0 from hc) (by omega)
      ·
        clear hc
        obtain ⟨m31, hm32, E23, hG⟩ := E_go (pc' := 7) (lv' := [(0, .ref 2), (1, .int r), (2, .int p)]) (st' := [.int r, .ref 2, .int p]) (h' := rk_pt (rk_pt h 118 5 (.int ((gi h 118 5) + (1 : Int32)))) 118 6 (.int ((gi h 118 6) + (1 : Int32)))) 3 rfl E23 hG
        obtain ⟨m33, d34, o35, hm37, E36, F36⟩ := E_call (ar := ([.ref 2, .int r], [.int p])) rfl rfl rfl rfl rfl rfl E23
        replace E36 : rk_ex m33 d34 rm_X3_lengthOf 0 [(0, .ref 2), (1, .int r)] [] (rk_pt (rk_pt h 118 5 (.int ((gi h 118 5) + (1 : Int32)))) 118 6 (.int ((gi h 118 6) + (1 : Int32)))) = some o35 := E36
        obtain ⟨m38, hm39, E36, hG⟩ := E_go (pc' := 2) (lv' := [(0, .ref 2), (1, .int r)]) (st' := [.int r, .ref 2]) (h' := rk_pt (rk_pt h 118 5 (.int ((gi h 118 5) + (1 : Int32)))) 118 6 (.int ((gi h 118 6) + (1 : Int32)))) 2 rfl E36 hG
        obtain ⟨m40, d41, o42, hm44, E43, F43⟩ := E_call (ar := ([.ref 2, .int r], [])) rfl rfl rfl rfl rfl rfl E36
        replace E43 : rk_ex m40 d41 rm_X3_hasRoutine 0 [(0, .ref 2), (1, .int r)] [] (rk_pt (rk_pt h 118 5 (.int ((gi h 118 5) + (1 : Int32)))) 118 6 (.int ((gi h 118 6) + (1 : Int32)))) = some o42 := E43
        obtain ⟨m45, hm46, E43, hG⟩ := E_go (pc' := 1) (lv' := [(0, .ref 2), (1, .int r)]) (st' := [.int r]) (h' := rk_pt (rk_pt h 118 5 (.int ((gi h 118 5) + (1 : Int32)))) 118 6 (.int ((gi h 118 6) + (1 : Int32)))) 1 rfl E43 hG
        rcases E_if1 (tg := 16) rfl rfl E43 with ⟨hc, m47, hm48, E43⟩ | ⟨hc, m49, hm50, E43⟩
        · exact absurd (show r.toInt < 0 from hc) (by omega)
        ·
          clear hc
          obtain ⟨m51, hm52, E43, hG⟩ := E_go (pc' := 9) (lv' := [(0, .ref 2), (1, .int r)]) (st' := [.int (gi (rk_pt (rk_pt h 118 5 (.int ((gi h 118 5) + (1 : Int32)))) 118 6 (.int ((gi h 118 6) + (1 : Int32)))) 2 5), .int r]) (h' := rk_pt (rk_pt h 118 5 (.int ((gi h 118 5) + (1 : Int32)))) 118 6 (.int ((gi h 118 6) + (1 : Int32)))) 3 rfl E43 hG
          try simp only [gi_x (a := 118) (a' := 2) (by decide), gi_x (a := 118) (a' := 2) (by decide)] at E43 hG
          rcases E_if2 (tg := 16) rfl rfl E43 with ⟨hc, m53, hm54, E43⟩ | ⟨hc, m55, hm56, E43⟩
          · exact absurd hc q2
          ·
            clear hc
            obtain ⟨m57, hm58, E43, hG⟩ := E_go (pc' := 17) (lv' := [(0, .ref 2), (1, .int r)]) (st' := [.int (1 : Int32)]) (h' := rk_pt (rk_pt h 118 5 (.int ((gi h 118 5) + (1 : Int32)))) 118 6 (.int ((gi h 118 6) + (1 : Int32)))) 2 rfl E43 hG
            have ho59 := E_reti rfl E43
            subst ho59
            have E36 : rk_ex m40 d34 rm_X3_lengthOf 5 [(0, .ref 2), (1, .int r)] [.int (1 : Int32)] (rk_pt (rk_pt h 118 5 (.int ((gi h 118 5) + (1 : Int32)))) 118 6 (.int ((gi h 118 6) + (1 : Int32)))) = some o35 := F43
            rcases E_if1 (tg := 17) rfl rfl E36 with ⟨hc, m60, hm61, E36⟩ | ⟨hc, m62, hm63, E36⟩
            · exact absurd (show (1 : Int) = 0 from hc) (by decide)
            ·
              clear hc
              obtain ⟨m64, hm65, E36, hG⟩ := E_go (pc' := 18) (lv' := [(0, .ref 2), (1, .int r)]) (st' := [.int (gi (rk_pt (rk_pt h 118 5 (.int ((gi h 118 5) + (1 : Int32)))) 118 6 (.int ((gi h 118 6) + (1 : Int32)))) 14 r.toNatClampNeg)]) (h' := rk_pt (rk_pt h 118 5 (.int ((gi h 118 5) + (1 : Int32)))) 118 6 (.int ((gi h 118 6) + (1 : Int32)))) 5 rfl E36 hG
              try simp only [gi_x (a := 118) (a' := 14) (by decide), gi_x (a := 118) (a' := 14) (by decide)] at E36 hG
              have ho66 := E_reti rfl E36
              subst ho66
              have E23 : rk_ex m33 d21 rm_X3_codeOf 10 [(0, .ref 2), (1, .int r), (2, .int p)] [.int (gi h 14 r.toNatClampNeg), .int p] (rk_pt (rk_pt h 118 5 (.int ((gi h 118 5) + (1 : Int32)))) 118 6 (.int ((gi h 118 6) + (1 : Int32)))) = some o22 := F36
              rcases E_if2 (tg := 24) rfl rfl E23 with ⟨hc, m67, hm68, E23⟩ | ⟨hc, m69, hm70, E23⟩
              · exact absurd hc c10
              ·
                clear hc
                obtain ⟨m71, hm72, E23, hG⟩ := E_go (pc' := 26) (lv' := [(0, .ref 2), (1, .int r), (2, .int p)]) (st' := [.int (gi (rk_pt (rk_pt h 118 5 (.int ((gi h 118 5) + (1 : Int32)))) 118 6 (.int ((gi h 118 6) + (1 : Int32)))) (4 + r.toNatClampNeg) p.toNatClampNeg)]) (h' := rk_pt (rk_pt h 118 5 (.int ((gi h 118 5) + (1 : Int32)))) 118 6 (.int ((gi h 118 6) + (1 : Int32)))) 7 rfl E23 hG
                try simp only [gi_x (a := 118) (a' := (4 + r.toNatClampNeg)) (by omega), gi_x (a := 118) (a' := (4 + r.toNatClampNeg)) (by omega)] at E23 hG
                have ho73 := E_reti rfl E23
                subst ho73
                have E : rk_ex m20 d rm_X2_walk 62 [(0, .ref 118), (1, .int r), (2, .ref f), (3, .int t), (4, .int (gi h 14 r.toNatClampNeg)), (5, .int p), (6, .int c), (7, .int e)] [.int (gi h (4 + r.toNatClampNeg) p.toNatClampNeg)] (rk_pt (rk_pt h 118 5 (.int ((gi h 118 5) + (1 : Int32)))) 118 6 (.int ((gi h 118 6) + (1 : Int32)))) = some o := F23
                obtain ⟨m74, hm75, E, hG⟩ := E_go (pc' := 71) (lv' := [(6, .int (gi h (4 + r.toNatClampNeg) p.toNatClampNeg)), (0, .ref 118), (1, .int r), (2, .ref f), (3, .int t), (4, .int (gi h 14 r.toNatClampNeg)), (5, .int p), (7, .int e)]) (st' := [.int (6 : Int32), .int ((gi h (4 + r.toNatClampNeg) p.toNatClampNeg) / (100 : Int32))]) (h' := rk_pt (rk_pt h 118 5 (.int ((gi h 118 5) + (1 : Int32)))) 118 6 (.int ((gi h 118 6) + (1 : Int32)))) 5 rfl E hG
                rcases E_if2 (tg := 95) rfl rfl E with ⟨hc, m76, hm77, E⟩ | ⟨hc, m78, hm79, E⟩
                ·
                  have c80 : ((gi h (4 + r.toNatClampNeg) p.toNatClampNeg) / (100 : Int32)).toInt = 6 := hc
                  clear hc
                  obtain ⟨m81, hm82, E, hG⟩ := E_go (pc' := 100) (lv' := [(6, .int (gi h (4 + r.toNatClampNeg) p.toNatClampNeg)), (0, .ref 118), (1, .int r), (2, .ref f), (3, .int t), (4, .int (gi h 14 r.toNatClampNeg)), (5, .int p), (7, .int e)]) (st' := [.int (1 : Int32), .int (gi (rk_pt (rk_pt h 118 5 (.int ((gi h 118 5) + (1 : Int32)))) 118 6 (.int ((gi h 118 6) + (1 : Int32)))) f 2)]) (h' := rk_pt (rk_pt h 118 5 (.int ((gi h 118 5) + (1 : Int32)))) 118 6 (.int ((gi h 118 6) + (1 : Int32)))) 3 rfl E hG
                  try simp only [gi_x (a := 118) (a' := f) (by omega), gi_x (a := 118) (a' := f) (by omega)] at E hG
                  rcases E_if2 (tg := 105) rfl rfl E with ⟨hc, m83, hm84, E⟩ | ⟨hc, m85, hm86, E⟩
                  ·
                    have c87 : 1 ≤ (gi h f 2).toInt := hc
                    clear hc
                    obtain ⟨m88, hm89, E, hG⟩ := E_go (pc' := 106) (lv' := [(6, .int (gi h (4 + r.toNatClampNeg) p.toNatClampNeg)), (0, .ref 118), (1, .int r), (2, .ref f), (3, .int t), (4, .int (gi h 14 r.toNatClampNeg)), (5, .int p), (7, .int e)]) (st' := [.ref f]) (h' := rk_pt (rk_pt h 118 5 (.int ((gi h 118 5) + (1 : Int32)))) 118 6 (.int ((gi h 118 6) + (1 : Int32)))) 1 rfl E hG
                    exact Or.inr (Or.inl ⟨c10, c17, c80, c87, _, (by omega), hG, E⟩)
                  ·
                    have c90 : ¬ (1 ≤ (gi h f 2).toInt) := hc
                    clear hc
                    obtain ⟨m91, hm92, E, hG⟩ := E_go (pc' := 104) (lv' := [(6, .int (gi h (4 + r.toNatClampNeg) p.toNatClampNeg)), (0, .ref 118), (1, .int r), (2, .ref f), (3, .int t), (4, .int (gi h 14 r.toNatClampNeg)), (5, .int p), (7, .int e)]) (st' := [.int (1 : Int32)]) (h' := rk_pt (rk_pt h 118 5 (.int ((gi h 118 5) + (1 : Int32)))) 118 6 (.int ((gi h 118 6) + (1 : Int32)))) 1 rfl E hG
                    have ho93 := E_reti rfl E
                    exact Or.inr (Or.inr (Or.inl ⟨c10, c17, c80, c90, hG, ho93⟩))
                ·
                  have c94 : ¬ (((gi h (4 + r.toNatClampNeg) p.toNatClampNeg) / (100 : Int32)).toInt = 6) := hc
                  clear hc
                  obtain ⟨m95, hm96, E, hG⟩ := E_go (pc' := 79) (lv' := [(6, .int (gi h (4 + r.toNatClampNeg) p.toNatClampNeg)), (0, .ref 118), (1, .int r), (2, .ref f), (3, .int t), (4, .int (gi h 14 r.toNatClampNeg)), (5, .int p), (7, .int e)]) (st' := [.int t, .ref f, .int (gi h (4 + r.toNatClampNeg) p.toNatClampNeg), .ref 118]) (h' := rk_pt (rk_pt h 118 5 (.int ((gi h 118 5) + (1 : Int32)))) 118 6 (.int ((gi h 118 6) + (1 : Int32)))) 4 rfl E hG
                  exact Or.inr (Or.inr (Or.inr (Or.inl ⟨c10, c17, c94, _, (by omega), hG, E⟩)))
    ·
      have c97 : ¬ ((gi h 118 5).toInt < 2000) := hc
      clear hc
      obtain ⟨m98, hm99, E, hG⟩ := E_go (pc' := 31) (lv' := [(0, .ref 118), (1, .int r), (2, .ref f), (3, .int t), (4, .int (gi h 14 r.toNatClampNeg)), (5, .int p), (6, .int c), (7, .int e)]) (st' := [.int (5 : Int32)]) (h' := h) 1 rfl E hG
      have ho100 := E_reti rfl E
      exact Or.inr (Or.inr (Or.inr (Or.inr ⟨c10, c97, hG, ho100⟩)))
set_option maxRecDepth 100000 in
set_option maxHeartbeats 4000000 in
theorem yc_wk1 {n d : Nat} {h : rk_S} {o : Option Value × rk_S} {f : Nat} {r t w p c e y : Int32} (hG : yG h) (hf : 120 ≤ f) (hf2 : f ≤ 153) (E : rk_ex n d rm_X2_walk 82 [(6, .int c), (0, .ref 118), (1, .int r), (2, .ref f), (3, .int t), (4, .int w), (5, .int p), (7, .int e)] [.int y] h = some o) :
    (y.toInt = 0 ∧ ∃ m, m < n ∧ yG h ∧ rk_ex m d rm_X2_walk 13 [(0, .ref 118), (1, .int r), (2, .ref f), (3, .int t), (4, .int w), (5, .int (p + (1 : Int32))), (6, .int c), (7, .int y)] [] h = some o) ∨
    (¬ (y.toInt = 0) ∧ yG h ∧ o = (some (.int y), h)) := by
  obtain ⟨m1, hm2, E, hG⟩ := E_go (pc' := 86) (lv' := [(7, .int y), (6, .int c), (0, .ref 118), (1, .int r), (2, .ref f), (3, .int t), (4, .int w), (5, .int p)]) (st' := [.int y]) (h' := h) 2 rfl E hG
  rcases E_if1 (tg := 92) rfl rfl E with ⟨hc, m3, hm4, E⟩ | ⟨hc, m5, hm6, E⟩
  ·
    have c7 : y.toInt = 0 := hc
    clear hc
    obtain ⟨m8, hm9, E, hG⟩ := E_go (pc' := 13) (lv' := [(5, .int (p + (1 : Int32))), (7, .int y), (6, .int c), (0, .ref 118), (1, .int r), (2, .ref f), (3, .int t), (4, .int w)]) (st' := []) (h' := h) 3 rfl E hG
    replace E := E_lv [(0, .ref 118), (1, .int r), (2, .ref f), (3, .int t), (4, .int w), (5, .int (p + (1 : Int32))), (6, .int c), (7, .int y)] rfl (lvs_c rfl rfl (lvs_c rfl rfl (lvs_c rfl rfl (lvs_c rfl rfl (lvs_c rfl rfl (lvs_c rfl rfl (lvs_c rfl rfl (lvs_c rfl rfl lvs_n)))))))) E
    exact Or.inl ⟨c7, _, (by omega), hG, E⟩
  ·
    have c11 : ¬ (y.toInt = 0) := hc
    clear hc
    obtain ⟨m12, hm13, E, hG⟩ := E_go (pc' := 91) (lv' := [(7, .int y), (6, .int c), (0, .ref 118), (1, .int r), (2, .ref f), (3, .int t), (4, .int w), (5, .int p)]) (st' := [.int y]) (h' := h) 1 rfl E hG
    have ho14 := E_reti rfl E
    exact Or.inr ⟨c11, hG, ho14⟩
set_option maxRecDepth 100000 in
set_option maxHeartbeats 4000000 in
theorem yc_wk2 {n d : Nat} {h : rk_S} {o : Option Value × rk_S} {f : Nat} {r t w p c e y : Int32} (hG : yG h) (hf : 120 ≤ f) (hf2 : f ≤ 153) (E : rk_ex n d rm_X2_walk 109 [(6, .int c), (0, .ref 118), (1, .int r), (2, .ref f), (3, .int t), (4, .int w), (5, .int p), (7, .int e)] [.int y] h = some o) :
    (¬ y.toInt = 0 ∧ ∃ m, m < n ∧ yG h ∧ rk_ex m d rm_X2_walk 13 [(0, .ref 118), (1, .int r), (2, .ref f), (3, .int t), (4, .int w), (5, .int (p + (1 : Int32))), (6, .int c), (7, .int e)] [] h = some o) ∨
    (y.toInt = 0 ∧ ∃ m, m < n ∧ yG h ∧ rk_ex m d rm_X2_walk 13 [(0, .ref 118), (1, .int r), (2, .ref f), (3, .int t), (4, .int w), (5, .int ((p + (c - c / (100 : Int32) * (100 : Int32))) + (1 : Int32))), (6, .int c), (7, .int e)] [] h = some o) := by
  rcases E_if1 (tg := 122) rfl rfl E with ⟨hc, m1, hm2, E⟩ | ⟨hc, m3, hm4, E⟩
  ·
    have c5 : ¬ y.toInt = 0 := hc
    clear hc
    obtain ⟨m6, hm7, E, hG⟩ := E_go (pc' := 13) (lv' := [(5, .int (p + (1 : Int32))), (6, .int c), (0, .ref 118), (1, .int r), (2, .ref f), (3, .int t), (4, .int w), (7, .int e)]) (st' := []) (h' := h) 2 rfl E hG
    replace E := E_lv [(0, .ref 118), (1, .int r), (2, .ref f), (3, .int t), (4, .int w), (5, .int (p + (1 : Int32))), (6, .int c), (7, .int e)] rfl (lvs_c rfl rfl (lvs_c rfl rfl (lvs_c rfl rfl (lvs_c rfl rfl (lvs_c rfl rfl (lvs_c rfl rfl (lvs_c rfl rfl (lvs_c rfl rfl lvs_n)))))))) E
    exact Or.inl ⟨c5, _, (by omega), hG, E⟩
  ·
    have c9 : y.toInt = 0 := Decidable.not_not.mp hc
    clear hc
    obtain ⟨m10, hm11, E, hG⟩ := E_go (pc' := 13) (lv' := [(5, .int ((p + (c - c / (100 : Int32) * (100 : Int32))) + (1 : Int32))), (6, .int c), (0, .ref 118), (1, .int r), (2, .ref f), (3, .int t), (4, .int w), (7, .int e)]) (st' := []) (h' := h) 8 rfl E hG
    replace E := E_lv [(0, .ref 118), (1, .int r), (2, .ref f), (3, .int t), (4, .int w), (5, .int ((p + (c - c / (100 : Int32) * (100 : Int32))) + (1 : Int32))), (6, .int c), (7, .int e)] rfl (lvs_c rfl rfl (lvs_c rfl rfl (lvs_c rfl rfl (lvs_c rfl rfl (lvs_c rfl rfl (lvs_c rfl rfl (lvs_c rfl rfl (lvs_c rfl rfl lvs_n)))))))) E
    exact Or.inr ⟨c9, _, (by omega), hG, E⟩
set_option maxRecDepth 100000 in
set_option maxHeartbeats 4000000 in
theorem yc_wk3 {n d : Nat} {h : rk_S} {o : Option Value × rk_S} {f : Nat} {r t w p c e y : Int32} (hG : yG h) (hf : 120 ≤ f) (hf2 : f ≤ 153) (E : rk_ex n d rm_X2_walk 133 [(0, .ref 118), (1, .int r), (2, .ref f), (3, .int t), (4, .int w), (5, .int p), (6, .int c), (7, .int e)] [.int y, .ref f] h = some o) :
    (yG (rk_pt h f 6 (.int y)) ∧ o = (some (.int (0 : Int32)), rk_pt h f 6 (.int y))) := by
  obtain ⟨m1, hm2, E, hG⟩ := E_go (pc' := 137) (lv' := [(0, .ref 118), (1, .int r), (2, .ref f), (3, .int t), (4, .int w), (5, .int p), (6, .int c), (7, .int e)]) (st' := [.int (0 : Int32)]) (h' := rk_pt h f 6 (.int y)) 2 rfl E hG
  have ho3 := E_reti rfl E
  exact ⟨hG, ho3⟩
set_option maxRecDepth 100000 in
set_option maxHeartbeats 4000000 in
theorem yc_cr {n d : Nat} {h : rk_S} {o : Option Value × rk_S} {f : Nat} {x t : Int32} (hG : yG h) (hf : 120 ≤ f) (hf2 : f ≤ 153) (q1 : ¬ (x.toInt < 0)) (q4 : ¬ (t.toInt < 0)) (E : rk_ex n d rm_X2_callRoutine 0 [(0, .ref 118), (1, .int x), (2, .ref f), (3, .int t)] [] h = some o) :
    (3 ≤ (gi h f 2).toInt ∧ (gi h 2 5).toInt ≤ x.toInt ∧ yG h ∧ o = (some (.int (4 : Int32)), h)) ∨
    (3 ≤ (gi h f 2).toInt ∧ ¬ ((gi h 2 5).toInt ≤ x.toInt) ∧ t.toInt < 12 ∧ ∃ m, m < n + 1 ∧ yG h ∧ rk_ex m d rm_X2_callRoutine 45 [(4, .ref (120 + 3 * t.toNatClampNeg)), (0, .ref 118), (1, .int x), (2, .ref f), (3, .int t)] [.ref f] h = some o) ∨
    (3 ≤ (gi h f 2).toInt ∧ ¬ ((gi h 2 5).toInt ≤ x.toInt) ∧ ¬ (t.toInt < 12) ∧ yG h ∧ o = (some (.int (6 : Int32)), h)) ∨
    (¬ (3 ≤ (gi h f 2).toInt) ∧ yG h ∧ o = (some (.int (1 : Int32)), h)) := by
  obtain ⟨m1, hm2, E, hG⟩ := E_go (pc' := 5) (lv' := [(0, .ref 118), (1, .int x), (2, .ref f), (3, .int t)]) (st' := [.int (3 : Int32), .int (gi h f 2)]) (h' := h) 3 rfl E hG
  rcases E_if2 (tg := 10) rfl rfl E with ⟨hc, m3, hm4, E⟩ | ⟨hc, m5, hm6, E⟩
  ·
    have c7 : 3 ≤ (gi h f 2).toInt := hc
    clear hc
    obtain ⟨m8, hm9, E, hG⟩ := E_go (pc' := 15) (lv' := [(0, .ref 118), (1, .int x), (2, .ref f), (3, .int t)]) (st' := [.int x, .ref 2]) (h' := h) 3 rfl E hG
    obtain ⟨m10, d11, o12, hm14, E13, F13⟩ := E_call (ar := ([.ref 2, .int x], [])) rfl rfl rfl rfl rfl rfl E
    replace E13 : rk_ex m10 d11 rm_X3_hasRoutine 0 [(0, .ref 2), (1, .int x)] [] h = some o12 := E13
    obtain ⟨m15, hm16, E13, hG⟩ := E_go (pc' := 1) (lv' := [(0, .ref 2), (1, .int x)]) (st' := [.int x]) (h' := h) 1 rfl E13 hG
    rcases E_if1 (tg := 16) rfl rfl E13 with ⟨hc, m17, hm18, E13⟩ | ⟨hc, m19, hm20, E13⟩
    · exact absurd (show x.toInt < 0 from hc) (by omega)
    ·
      clear hc
      obtain ⟨m21, hm22, E13, hG⟩ := E_go (pc' := 9) (lv' := [(0, .ref 2), (1, .int x)]) (st' := [.int (gi h 2 5), .int x]) (h' := h) 3 rfl E13 hG
      rcases E_if2 (tg := 16) rfl rfl E13 with ⟨hc, m23, hm24, E13⟩ | ⟨hc, m25, hm26, E13⟩
      ·
        have c27 : (gi h 2 5).toInt ≤ x.toInt := hc
        clear hc
        obtain ⟨m28, hm29, E13, hG⟩ := E_go (pc' := 17) (lv' := [(0, .ref 2), (1, .int x)]) (st' := [.int (0 : Int32)]) (h' := h) 1 rfl E13 hG
        have ho30 := E_reti rfl E13
        subst ho30
        have E : rk_ex m10 d rm_X2_callRoutine 18 [(0, .ref 118), (1, .int x), (2, .ref f), (3, .int t)] [.int (0 : Int32)] h = some o := F13
        rcases E_if1 (tg := 23) rfl rfl E with ⟨hc, m31, hm32, E⟩ | ⟨hc, m33, hm34, E⟩
        · exact absurd (show ¬ (0 : Int) = 0 from hc) (by decide)
        ·
          clear hc
          obtain ⟨m35, hm36, E, hG⟩ := E_go (pc' := 22) (lv' := [(0, .ref 118), (1, .int x), (2, .ref f), (3, .int t)]) (st' := [.int (4 : Int32)]) (h' := h) 1 rfl E hG
          have ho37 := E_reti rfl E
          exact Or.inl ⟨c7, c27, hG, ho37⟩
      ·
        have c38 : ¬ ((gi h 2 5).toInt ≤ x.toInt) := hc
        clear hc
        obtain ⟨m39, hm40, E13, hG⟩ := E_go (pc' := 17) (lv' := [(0, .ref 2), (1, .int x)]) (st' := [.int (1 : Int32)]) (h' := h) 2 rfl E13 hG
        have ho41 := E_reti rfl E13
        subst ho41
        have E : rk_ex m10 d rm_X2_callRoutine 18 [(0, .ref 118), (1, .int x), (2, .ref f), (3, .int t)] [.int (1 : Int32)] h = some o := F13
        rcases E_if1 (tg := 23) rfl rfl E with ⟨hc, m42, hm43, E⟩ | ⟨hc, m44, hm45, E⟩
        ·
          clear hc
          obtain ⟨m46, hm47, E, hG⟩ := E_go (pc' := 24) (lv' := [(0, .ref 118), (1, .int x), (2, .ref f), (3, .int t)]) (st' := [.int t]) (h' := h) 1 rfl E hG
          rcases E_if1 (tg := 33) rfl rfl E with ⟨hc, m48, hm49, E⟩ | ⟨hc, m50, hm51, E⟩
          · exact absurd (show t.toInt < 0 from hc) (by omega)
          ·
            clear hc
            obtain ⟨m52, hm53, E, hG⟩ := E_go (pc' := 30) (lv' := [(0, .ref 118), (1, .int x), (2, .ref f), (3, .int t)]) (st' := [.int (12 : Int32), .int t]) (h' := h) 2 rfl E hG
            rcases E_if2 (tg := 36) rfl rfl E with ⟨hc, m54, hm55, E⟩ | ⟨hc, m56, hm57, E⟩
            ·
              have c58 : t.toInt < 12 := hc
              clear hc
              obtain ⟨m59, hm60, E, hG⟩ := E_go (pc' := 45) (lv' := [(4, .ref (120 + 3 * t.toNatClampNeg)), (0, .ref 118), (1, .int x), (2, .ref f), (3, .int t)]) (st' := [.ref f]) (h' := h) 6 rfl E hG
              exact Or.inr (Or.inl ⟨c7, c38, c58, _, (by omega), hG, E⟩)
            ·
              have c61 : ¬ (t.toInt < 12) := hc
              clear hc
              obtain ⟨m62, hm63, E, hG⟩ := E_go (pc' := 35) (lv' := [(0, .ref 118), (1, .int x), (2, .ref f), (3, .int t)]) (st' := [.int (6 : Int32)]) (h' := h) 1 rfl E hG
              have ho64 := E_reti rfl E
              exact Or.inr (Or.inr (Or.inl ⟨c7, c38, c61, hG, ho64⟩))
        · exact absurd (show ¬ (¬ (1 : Int) = 0) from hc) (by decide)
  ·
    have c65 : ¬ (3 ≤ (gi h f 2).toInt) := hc
    clear hc
    obtain ⟨m66, hm67, E, hG⟩ := E_go (pc' := 9) (lv' := [(0, .ref 118), (1, .int x), (2, .ref f), (3, .int t)]) (st' := [.int (1 : Int32)]) (h' := h) 1 rfl E hG
    have ho68 := E_reti rfl E
    exact Or.inr (Or.inr (Or.inr ⟨c65, hG, ho68⟩))
set_option maxRecDepth 100000 in
set_option maxHeartbeats 4000000 in
theorem yc_cr1 {n d : Nat} {h : rk_S} {o : Option Value × rk_S} {f g : Nat} {x t c : Int32} (hG : yG h) (E : rk_ex n d rm_X2_callRoutine 48 [(4, .ref g), (0, .ref 118), (1, .int x), (2, .ref f), (3, .int t)] [.int c] h = some o) :
    (∃ m, m < n + 1 ∧ yG h ∧ rk_ex m d rm_X2_callRoutine 51 [(5, .int c), (4, .ref g), (0, .ref 118), (1, .int x), (2, .ref f), (3, .int t)] [.ref f] h = some o) := by
  obtain ⟨m1, hm2, E, hG⟩ := E_go (pc' := 51) (lv' := [(5, .int c), (4, .ref g), (0, .ref 118), (1, .int x), (2, .ref f), (3, .int t)]) (st' := [.ref f]) (h' := h) 2 rfl E hG
  exact ⟨_, (by omega), hG, E⟩
set_option maxRecDepth 100000 in
set_option maxHeartbeats 4000000 in
theorem yc_cr2 {n d : Nat} {h : rk_S} {o : Option Value × rk_S} {f g : Nat} {x t c b : Int32} (hG : yG h) (E : rk_ex n d rm_X2_callRoutine 54 [(5, .int c), (4, .ref g), (0, .ref 118), (1, .int x), (2, .ref f), (3, .int t)] [.int b] h = some o) :
    (∃ m, m < n + 1 ∧ yG h ∧ rk_ex m d rm_X2_callRoutine 57 [(6, .int b), (5, .int c), (4, .ref g), (0, .ref 118), (1, .int x), (2, .ref f), (3, .int t)] [.ref f] h = some o) := by
  obtain ⟨m1, hm2, E, hG⟩ := E_go (pc' := 57) (lv' := [(6, .int b), (5, .int c), (4, .ref g), (0, .ref 118), (1, .int x), (2, .ref f), (3, .int t)]) (st' := [.ref f]) (h' := h) 2 rfl E hG
  exact ⟨_, (by omega), hG, E⟩
set_option maxRecDepth 100000 in
set_option maxHeartbeats 4000000 in
theorem yc_cr3 {n d : Nat} {h : rk_S} {o : Option Value × rk_S} {f g : Nat} {x t c b a : Int32} (hG : yG h) (E : rk_ex n d rm_X2_callRoutine 60 [(6, .int b), (5, .int c), (4, .ref g), (0, .ref 118), (1, .int x), (2, .ref f), (3, .int t)] [.int a] h = some o) :
    (∃ m, m < n + 1 ∧ yG h ∧ rk_ex m d rm_X2_callRoutine 70 [(7, .int a), (6, .int b), (5, .int c), (4, .ref g), (0, .ref 118), (1, .int x), (2, .ref f), (3, .int t)] [.int c, .int b, .int a, .ref g] h = some o) := by
  obtain ⟨m1, hm2, E, hG⟩ := E_go (pc' := 70) (lv' := [(7, .int a), (6, .int b), (5, .int c), (4, .ref g), (0, .ref 118), (1, .int x), (2, .ref f), (3, .int t)]) (st' := [.int c, .int b, .int a, .ref g]) (h' := h) 5 rfl E hG
  exact ⟨_, (by omega), hG, E⟩
set_option maxRecDepth 100000 in
set_option maxHeartbeats 4000000 in
theorem yc_cr4 {n d : Nat} {h : rk_S} {o : Option Value × rk_S} {f g : Nat} {x t c b a : Int32} (hG : yG h) (E : rk_ex n d rm_X2_callRoutine 73 [(7, .int a), (6, .int b), (5, .int c), (4, .ref g), (0, .ref 118), (1, .int x), (2, .ref f), (3, .int t)] [] h = some o) :
    (∃ m, m < n + 1 ∧ yG h ∧ rk_ex m d rm_X2_callRoutine 80 [(7, .int a), (6, .int b), (5, .int c), (4, .ref g), (0, .ref 118), (1, .int x), (2, .ref f), (3, .int t)] [.int (t + (1 : Int32)), .ref g, .int x, .ref 118] h = some o) := by
  obtain ⟨m1, hm2, E, hG⟩ := E_go (pc' := 80) (lv' := [(7, .int a), (6, .int b), (5, .int c), (4, .ref g), (0, .ref 118), (1, .int x), (2, .ref f), (3, .int t)]) (st' := [.int (t + (1 : Int32)), .ref g, .int x, .ref 118]) (h' := h) 6 rfl E hG
  exact ⟨_, (by omega), hG, E⟩
set_option maxRecDepth 100000 in
set_option maxHeartbeats 4000000 in
theorem yc_cr5 {n d : Nat} {h : rk_S} {o : Option Value × rk_S} {f g : Nat} {x t c b a e : Int32} (hG : yG h) (E : rk_ex n d rm_X2_callRoutine 83 [(7, .int a), (6, .int b), (5, .int c), (4, .ref g), (0, .ref 118), (1, .int x), (2, .ref f), (3, .int t)] [.int e] h = some o) :
    (∃ m, m < n + 1 ∧ yG h ∧ rk_ex m d rm_X2_callRoutine 88 [(8, .int e), (7, .int a), (6, .int b), (5, .int c), (4, .ref g), (0, .ref 118), (1, .int x), (2, .ref f), (3, .int t)] [.ref g, .ref f] h = some o) := by
  obtain ⟨m1, hm2, E, hG⟩ := E_go (pc' := 88) (lv' := [(8, .int e), (7, .int a), (6, .int b), (5, .int c), (4, .ref g), (0, .ref 118), (1, .int x), (2, .ref f), (3, .int t)]) (st' := [.ref g, .ref f]) (h' := h) 3 rfl E hG
  exact ⟨_, (by omega), hG, E⟩
set_option maxRecDepth 100000 in
set_option maxHeartbeats 4000000 in
theorem yc_cr6 {n d : Nat} {h : rk_S} {o : Option Value × rk_S} {f g : Nat} {x t c b a e : Int32} (hG : yG h) (E : rk_ex n d rm_X2_callRoutine 91 [(8, .int e), (7, .int a), (6, .int b), (5, .int c), (4, .ref g), (0, .ref 118), (1, .int x), (2, .ref f), (3, .int t)] [] h = some o) :
    (¬ e.toInt = 0 ∧ yG h ∧ o = (some (.int e), h)) ∨
    (e.toInt = 0 ∧ ∃ m, m < n + 1 ∧ yG h ∧ rk_ex m d rm_X2_callRoutine 102 [(8, .int e), (7, .int a), (6, .int b), (5, .int c), (4, .ref g), (0, .ref 118), (1, .int x), (2, .ref f), (3, .int t)] [.int (gi h g 6), .ref f] h = some o) := by
  obtain ⟨m1, hm2, E, hG⟩ := E_go (pc' := 93) (lv' := [(8, .int e), (7, .int a), (6, .int b), (5, .int c), (4, .ref g), (0, .ref 118), (1, .int x), (2, .ref f), (3, .int t)]) (st' := [.int e]) (h' := h) 1 rfl E hG
  rcases E_if1 (tg := 108) rfl rfl E with ⟨hc, m3, hm4, E⟩ | ⟨hc, m5, hm6, E⟩
  ·
    have c7 : ¬ e.toInt = 0 := hc
    clear hc
    obtain ⟨m8, hm9, E, hG⟩ := E_go (pc' := 110) (lv' := [(8, .int e), (7, .int a), (6, .int b), (5, .int c), (4, .ref g), (0, .ref 118), (1, .int x), (2, .ref f), (3, .int t)]) (st' := [.int e]) (h' := h) 1 rfl E hG
    have ho10 := E_reti rfl E
    exact Or.inl ⟨c7, hG, ho10⟩
  ·
    have c11 : e.toInt = 0 := Decidable.not_not.mp hc
    clear hc
    obtain ⟨m12, hm13, E, hG⟩ := E_go (pc' := 102) (lv' := [(8, .int e), (7, .int a), (6, .int b), (5, .int c), (4, .ref g), (0, .ref 118), (1, .int x), (2, .ref f), (3, .int t)]) (st' := [.int (gi h g 6), .ref f]) (h' := h) 3 rfl E hG
    exact Or.inr ⟨c11, _, (by omega), hG, E⟩
set_option maxRecDepth 100000 in
set_option maxHeartbeats 4000000 in
theorem yc_cr7 {n d : Nat} {h : rk_S} {o : Option Value × rk_S} {f g : Nat} {x t c b a e y : Int32} (hG : yG h) (E : rk_ex n d rm_X2_callRoutine 105 [(8, .int e), (7, .int a), (6, .int b), (5, .int c), (4, .ref g), (0, .ref 118), (1, .int x), (2, .ref f), (3, .int t)] [.int y] h = some o) :
    (yG h ∧ o = (some (.int y), h)) := by
  obtain ⟨m1, hm2, E, hG⟩ := E_go (pc' := 110) (lv' := [(8, .int e), (7, .int a), (6, .int b), (5, .int c), (4, .ref g), (0, .ref 118), (1, .int x), (2, .ref f), (3, .int t)]) (st' := [.int y]) (h' := h) 1 rfl E hG
  have ho3 := E_reti rfl E
  exact ⟨hG, ho3⟩
set_option maxRecDepth 100000 in
set_option maxHeartbeats 4000000 in
theorem yc_en {n d : Nat} {h : rk_S} {o : Option Value × rk_S} {f : Nat} {r t : Int32} (hG : yG h) (hf : 120 ≤ f) (hf2 : f ≤ 153) (E : rk_ex n d rm_X2_enter 0 [(0, .ref 118), (1, .int r), (2, .ref f), (3, .int t)] [] h = some o) :
    ((((gi h 118 4) >>> (r &&& 31)) &&& (1 : Int32)).toInt = 0 ∧ ∃ m, m < n + 1 ∧ yG h ∧ rk_ex m d rm_X2_enter 15 [(0, .ref 118), (1, .int r), (2, .ref f), (3, .int t)] [.int t, .ref f, .int r, .ref 118] h = some o) ∨
    (¬ ((((gi h 118 4) >>> (r &&& 31)) &&& (1 : Int32)).toInt = 0) ∧ ∃ m, m < n + 1 ∧ yG h ∧ rk_ex m d rm_X2_enter 29 [(0, .ref 118), (1, .int r), (2, .ref f), (3, .int t)] [.ref 18, .ref f, .int r, .ref 20] h = some o) := by
  obtain ⟨m1, hm2, E, hG⟩ := E_go (pc' := 5) (lv' := [(0, .ref 118), (1, .int r), (2, .ref f), (3, .int t)]) (st' := [.int r, .int (gi h 118 4)]) (h' := h) 3 rfl E hG
  obtain ⟨m3, d4, o5, hm7, E6, F6⟩ := E_call (ar := ([.int (gi h 118 4), .int r], [])) rfl rfl rfl rfl rfl rfl E
  replace E6 : rk_ex m3 d4 rm_X7_isSet 0 [(0, .int (gi h 118 4)), (1, .int r)] [] h = some o5 := E6
  obtain ⟨m8, hm9, E6, hG⟩ := E_go (pc' := 5) (lv' := [(0, .int (gi h 118 4)), (1, .int r)]) (st' := [.int (((gi h 118 4) >>> (r &&& 31)) &&& (1 : Int32))]) (h' := h) 5 rfl E6 hG
  rcases E_if1 (tg := 12) rfl rfl E6 with ⟨hc, m10, hm11, E6⟩ | ⟨hc, m12, hm13, E6⟩
  ·
    have c14 : (((gi h 118 4) >>> (r &&& 31)) &&& (1 : Int32)).toInt = 0 := hc
    clear hc
    obtain ⟨m15, hm16, E6, hG⟩ := E_go (pc' := 13) (lv' := [(0, .int (gi h 118 4)), (1, .int r)]) (st' := [.int (0 : Int32)]) (h' := h) 1 rfl E6 hG
    have ho17 := E_reti rfl E6
    subst ho17
    have E : rk_ex m3 d rm_X2_enter 8 [(0, .ref 118), (1, .int r), (2, .ref f), (3, .int t)] [.int (0 : Int32)] h = some o := F6
    rcases E_if1 (tg := 19) rfl rfl E with ⟨hc, m18, hm19, E⟩ | ⟨hc, m20, hm21, E⟩
    · exact absurd (show ¬ (0 : Int) = 0 from hc) (by decide)
    ·
      clear hc
      obtain ⟨m22, hm23, E, hG⟩ := E_go (pc' := 15) (lv' := [(0, .ref 118), (1, .int r), (2, .ref f), (3, .int t)]) (st' := [.int t, .ref f, .int r, .ref 118]) (h' := h) 4 rfl E hG
      exact Or.inl ⟨c14, _, (by omega), hG, E⟩
  ·
    have c24 : ¬ ((((gi h 118 4) >>> (r &&& 31)) &&& (1 : Int32)).toInt = 0) := hc
    clear hc
    obtain ⟨m25, hm26, E6, hG⟩ := E_go (pc' := 13) (lv' := [(0, .int (gi h 118 4)), (1, .int r)]) (st' := [.int (1 : Int32)]) (h' := h) 2 rfl E6 hG
    have ho27 := E_reti rfl E6
    subst ho27
    have E : rk_ex m3 d rm_X2_enter 8 [(0, .ref 118), (1, .int r), (2, .ref f), (3, .int t)] [.int (1 : Int32)] h = some o := F6
    rcases E_if1 (tg := 19) rfl rfl E with ⟨hc, m28, hm29, E⟩ | ⟨hc, m30, hm31, E⟩
    ·
      clear hc
      obtain ⟨m32, hm33, E, hG⟩ := E_go (pc' := 29) (lv' := [(0, .ref 118), (1, .int r), (2, .ref f), (3, .int t)]) (st' := [.ref 18, .ref f, .int r, .ref 20]) (h' := h) 6 rfl E hG
      exact Or.inr ⟨c24, _, (by omega), hG, E⟩
    · exact absurd (show ¬ (¬ (1 : Int) = 0) from hc) (by decide)
set_option maxRecDepth 100000 in
set_option maxHeartbeats 4000000 in
theorem yc_en1 {n d : Nat} {h : rk_S} {o : Option Value × rk_S} {f : Nat} {r t y : Int32} (hG : yG h) (hf : 120 ≤ f) (hf2 : f ≤ 153) (E : rk_ex n d rm_X2_enter 18 [(0, .ref 118), (1, .int r), (2, .ref f), (3, .int t)] [.int y] h = some o) :
    (yG h ∧ o = (some (.int y), h)) := by
  have ho1 := E_reti rfl E
  exact ⟨hG, ho1⟩
set_option maxRecDepth 100000 in
set_option maxHeartbeats 4000000 in
theorem yc_en2 {n d : Nat} {h : rk_S} {o : Option Value × rk_S} {f : Nat} {r t p : Int32} (hG : yG h) (hf : 120 ≤ f) (hf2 : f ≤ 153) (E : rk_ex n d rm_X2_enter 32 [(0, .ref 118), (1, .int r), (2, .ref f), (3, .int t)] [.int p] h = some o) :
    (p.toInt < 0 ∧ ∃ m, m < n + 1 ∧ yG (rk_pt h 118 8 (.int ((gi h 118 8) + (1 : Int32)))) ∧ rk_ex m d rm_X2_enter 98 [(5, .int (gi h 118 5)), (4, .int p), (0, .ref 118), (1, .int r), (2, .ref f), (3, .int t)] [.int t, .ref f, .int r, .ref 118] (rk_pt h 118 8 (.int ((gi h 118 8) + (1 : Int32)))) = some o) ∨
    (¬ (p.toInt < 0) ∧ (gi h 20 1).toInt ≤ p.toInt ∧ ∃ m, m < n + 1 ∧ yG (rk_pt h 118 8 (.int ((gi h 118 8) + (1 : Int32)))) ∧ rk_ex m d rm_X2_enter 98 [(5, .int (gi h 118 5)), (4, .int p), (0, .ref 118), (1, .int r), (2, .ref f), (3, .int t)] [.int t, .ref f, .int r, .ref 118] (rk_pt h 118 8 (.int ((gi h 118 8) + (1 : Int32)))) = some o) ∨
    (¬ (p.toInt < 0) ∧ ¬ ((gi h 20 1).toInt ≤ p.toInt) ∧ 2000 < ((gi h 118 5) + (gi h (gr h 21 p.toNatClampNeg) 7)).toInt ∧ ∃ m, m < n + 1 ∧ yG (rk_pt h 118 8 (.int ((gi h 118 8) + (1 : Int32)))) ∧ rk_ex m d rm_X2_enter 98 [(5, .int (gi h 118 5)), (4, .int p), (0, .ref 118), (1, .int r), (2, .ref f), (3, .int t)] [.int t, .ref f, .int r, .ref 118] (rk_pt h 118 8 (.int ((gi h 118 8) + (1 : Int32)))) = some o) ∨
    (¬ (p.toInt < 0) ∧ ¬ ((gi h 20 1).toInt ≤ p.toInt) ∧ ¬ (2000 < ((gi h 118 5) + (gi h (gr h 21 p.toNatClampNeg) 7)).toInt) ∧ 12 < (t + (gi h (gr h 21 p.toNatClampNeg) 8)).toInt ∧ ∃ m, m < n + 1 ∧ yG (rk_pt h 118 8 (.int ((gi h 118 8) + (1 : Int32)))) ∧ rk_ex m d rm_X2_enter 98 [(5, .int (gi h 118 5)), (4, .int p), (0, .ref 118), (1, .int r), (2, .ref f), (3, .int t)] [.int t, .ref f, .int r, .ref 118] (rk_pt h 118 8 (.int ((gi h 118 8) + (1 : Int32)))) = some o) ∨
    (¬ (p.toInt < 0) ∧ ¬ ((gi h 20 1).toInt ≤ p.toInt) ∧ ¬ (2000 < ((gi h 118 5) + (gi h (gr h 21 p.toNatClampNeg) 7)).toInt) ∧ ¬ (12 < (t + (gi h (gr h 21 p.toNatClampNeg) 8)).toInt) ∧ ∃ m, m < n + 1 ∧ yG h ∧ rk_ex m d rm_X2_enter 74 [(4, .int p), (0, .ref 118), (1, .int r), (2, .ref f), (3, .int t)] [.ref f, .ref (gr h 21 p.toNatClampNeg), .ref 118] h = some o) := by
  obtain ⟨m1, hm2, E, hG⟩ := E_go (pc' := 40) (lv' := [(4, .int p), (0, .ref 118), (1, .int r), (2, .ref f), (3, .int t)]) (st' := [.int p, .ref 20]) (h' := h) 4 rfl E hG
  obtain ⟨m3, d4, o5, hm7, E6, F6⟩ := E_call (ar := ([.ref 20, .int p], [])) rfl rfl rfl rfl rfl rfl E
  replace E6 : rk_ex m3 d4 rm_X5_has 0 [(0, .ref 20), (1, .int p)] [] h = some o5 := E6
  obtain ⟨m8, hm9, E6, hG⟩ := E_go (pc' := 1) (lv' := [(0, .ref 20), (1, .int p)]) (st' := [.int p]) (h' := h) 1 rfl E6 hG
  rcases E_if1 (tg := 16) rfl rfl E6 with ⟨hc, m10, hm11, E6⟩ | ⟨hc, m12, hm13, E6⟩
  ·
    have c14 : p.toInt < 0 := hc
    clear hc
    obtain ⟨m15, hm16, E6, hG⟩ := E_go (pc' := 17) (lv' := [(0, .ref 20), (1, .int p)]) (st' := [.int (0 : Int32)]) (h' := h) 1 rfl E6 hG
    have ho17 := E_reti rfl E6
    subst ho17
    have E : rk_ex m3 d rm_X2_enter 43 [(4, .int p), (0, .ref 118), (1, .int r), (2, .ref f), (3, .int t)] [.int (0 : Int32)] h = some o := F6
    rcases E_if1 (tg := 78) rfl rfl E with ⟨hc, m18, hm19, E⟩ | ⟨hc, m20, hm21, E⟩
    ·
      clear hc
      obtain ⟨m22, hm23, E, hG⟩ := E_go (pc' := 98) (lv' := [(5, .int (gi (rk_pt h 118 8 (.int ((gi h 118 8) + (1 : Int32)))) 118 5)), (4, .int p), (0, .ref 118), (1, .int r), (2, .ref f), (3, .int t)]) (st' := [.int t, .ref f, .int r, .ref 118]) (h' := rk_pt h 118 8 (.int ((gi h 118 8) + (1 : Int32)))) 13 rfl E hG
      try simp only [gi_y (k := 8) (k' := 5) (by decide)] at E hG
      exact Or.inl ⟨c14, _, (by omega), hG, E⟩
    · exact absurd (show ¬ ((0 : Int) = 0) from hc) (by decide)
  ·
    have c24 : ¬ (p.toInt < 0) := hc
    clear hc
    obtain ⟨m25, hm26, E6, hG⟩ := E_go (pc' := 9) (lv' := [(0, .ref 20), (1, .int p)]) (st' := [.int (gi h 20 1), .int p]) (h' := h) 3 rfl E6 hG
    rcases E_if2 (tg := 16) rfl rfl E6 with ⟨hc, m27, hm28, E6⟩ | ⟨hc, m29, hm30, E6⟩
    ·
      have c31 : (gi h 20 1).toInt ≤ p.toInt := hc
      clear hc
      obtain ⟨m32, hm33, E6, hG⟩ := E_go (pc' := 17) (lv' := [(0, .ref 20), (1, .int p)]) (st' := [.int (0 : Int32)]) (h' := h) 1 rfl E6 hG
      have ho34 := E_reti rfl E6
      subst ho34
      have E : rk_ex m3 d rm_X2_enter 43 [(4, .int p), (0, .ref 118), (1, .int r), (2, .ref f), (3, .int t)] [.int (0 : Int32)] h = some o := F6
      rcases E_if1 (tg := 78) rfl rfl E with ⟨hc, m35, hm36, E⟩ | ⟨hc, m37, hm38, E⟩
      ·
        clear hc
        obtain ⟨m39, hm40, E, hG⟩ := E_go (pc' := 98) (lv' := [(5, .int (gi (rk_pt h 118 8 (.int ((gi h 118 8) + (1 : Int32)))) 118 5)), (4, .int p), (0, .ref 118), (1, .int r), (2, .ref f), (3, .int t)]) (st' := [.int t, .ref f, .int r, .ref 118]) (h' := rk_pt h 118 8 (.int ((gi h 118 8) + (1 : Int32)))) 13 rfl E hG
        try simp only [gi_y (k := 8) (k' := 5) (by decide)] at E hG
        exact Or.inr (Or.inl ⟨c24, c31, _, (by omega), hG, E⟩)
      · exact absurd (show ¬ ((0 : Int) = 0) from hc) (by decide)
    ·
      have c41 : ¬ ((gi h 20 1).toInt ≤ p.toInt) := hc
      clear hc
      obtain ⟨m42, hm43, E6, hG⟩ := E_go (pc' := 17) (lv' := [(0, .ref 20), (1, .int p)]) (st' := [.int (1 : Int32)]) (h' := h) 2 rfl E6 hG
      have ho44 := E_reti rfl E6
      subst ho44
      have E : rk_ex m3 d rm_X2_enter 43 [(4, .int p), (0, .ref 118), (1, .int r), (2, .ref f), (3, .int t)] [.int (1 : Int32)] h = some o := F6
      rcases E_if1 (tg := 78) rfl rfl E with ⟨hc, m45, hm46, E⟩ | ⟨hc, m47, hm48, E⟩
      · exact absurd (show (1 : Int) = 0 from hc) (by decide)
      ·
        clear hc
        obtain ⟨m49, hm50, E, hG⟩ := E_go (pc' := 53) (lv' := [(4, .int p), (0, .ref 118), (1, .int r), (2, .ref f), (3, .int t)]) (st' := [.int p, .ref 20, .ref 118]) (h' := h) 4 rfl E hG
        obtain ⟨m51, d52, o53, hm55, E54, F54⟩ := E_call (ar := ([.ref 20, .int p], [.ref 118])) rfl rfl rfl rfl rfl rfl E
        replace E54 : rk_ex m51 d52 rm_X5_at 0 [(0, .ref 20), (1, .int p)] [] h = some o53 := E54
        obtain ⟨m56, hm57, E54, hG⟩ := E_go (pc' := 6) (lv' := [(0, .ref 20), (1, .int p)]) (st' := [.int p, .ref 20, .ref 21]) (h' := h) 4 rfl E54 hG
        obtain ⟨m58, d59, o60, hm62, E61, F61⟩ := E_call (ar := ([.ref 20, .int p], [.ref 21])) rfl rfl rfl rfl rfl rfl E54
        replace E61 : rk_ex m58 d59 rm_X5_has 0 [(0, .ref 20), (1, .int p)] [] h = some o60 := E61
        obtain ⟨m63, hm64, E61, hG⟩ := E_go (pc' := 1) (lv' := [(0, .ref 20), (1, .int p)]) (st' := [.int p]) (h' := h) 1 rfl E61 hG
        rcases E_if1 (tg := 16) rfl rfl E61 with ⟨hc, m65, hm66, E61⟩ | ⟨hc, m67, hm68, E61⟩
        · exact absurd (show p.toInt < 0 from hc) (by omega)
        ·
          clear hc
          obtain ⟨m69, hm70, E61, hG⟩ := E_go (pc' := 9) (lv' := [(0, .ref 20), (1, .int p)]) (st' := [.int (gi h 20 1), .int p]) (h' := h) 3 rfl E61 hG
          rcases E_if2 (tg := 16) rfl rfl E61 with ⟨hc, m71, hm72, E61⟩ | ⟨hc, m73, hm74, E61⟩
          · exact absurd hc c41
          ·
            clear hc
            obtain ⟨m75, hm76, E61, hG⟩ := E_go (pc' := 17) (lv' := [(0, .ref 20), (1, .int p)]) (st' := [.int (1 : Int32)]) (h' := h) 2 rfl E61 hG
            have ho77 := E_reti rfl E61
            subst ho77
            have E54 : rk_ex m58 d52 rm_X5_at 9 [(0, .ref 20), (1, .int p)] [.int (1 : Int32), .ref 21] h = some o53 := F61
            rcases E_if1 (tg := 16) rfl rfl E54 with ⟨hc, m78, hm79, E54⟩ | ⟨hc, m80, hm81, E54⟩
            · exact absurd (show (1 : Int) = 0 from hc) (by decide)
            ·
              clear hc
              obtain ⟨m82, hm83, E54, hG⟩ := E_go (pc' := 18) (lv' := [(0, .ref 20), (1, .int p)]) (st' := [.ref (gr h 21 p.toNatClampNeg)]) (h' := h) 3 rfl E54 hG
              have ho84 := E_reta rfl E54
              subst ho84
              have E : rk_ex m51 d rm_X2_enter 56 [(4, .int p), (0, .ref 118), (1, .int r), (2, .ref f), (3, .int t)] [.ref (gr h 21 p.toNatClampNeg), .ref 118] h = some o := F54
              obtain ⟨m85, hm86, E, hG⟩ := E_go (pc' := 57) (lv' := [(4, .int p), (0, .ref 118), (1, .int r), (2, .ref f), (3, .int t)]) (st' := [.int t, .ref (gr h 21 p.toNatClampNeg), .ref 118]) (h' := h) 1 rfl E hG
              obtain ⟨m87, d88, o89, hm91, E90, F90⟩ := E_call (ar := ([.ref 118, .ref (gr h 21 p.toNatClampNeg), .int t], [])) rfl rfl rfl rfl rfl rfl E
              replace E90 : rk_ex m87 d88 rm_X2_fits 0 [(0, .ref 118), (1, .ref (gr h 21 p.toNatClampNeg)), (2, .int t)] [] h = some o89 := E90
              obtain ⟨m92, hm93, E90, hG⟩ := E_go (pc' := 12) (lv' := [(0, .ref 118), (1, .ref (gr h 21 p.toNatClampNeg)), (2, .int t)]) (st' := [.int (2000 : Int32), .int ((gi h 118 5) + (gi h (gr h 21 p.toNatClampNeg) 7))]) (h' := h) 6 rfl E90 hG
              rcases E_if2 (tg := 30) rfl rfl E90 with ⟨hc, m94, hm95, E90⟩ | ⟨hc, m96, hm97, E90⟩
              ·
                have c98 : 2000 < ((gi h 118 5) + (gi h (gr h 21 p.toNatClampNeg) 7)).toInt := hc
                clear hc
                obtain ⟨m99, hm100, E90, hG⟩ := E_go (pc' := 31) (lv' := [(0, .ref 118), (1, .ref (gr h 21 p.toNatClampNeg)), (2, .int t)]) (st' := [.int (0 : Int32)]) (h' := h) 1 rfl E90 hG
                have ho101 := E_reti rfl E90
                subst ho101
                have E : rk_ex m87 d rm_X2_enter 60 [(4, .int p), (0, .ref 118), (1, .int r), (2, .ref f), (3, .int t)] [.int (0 : Int32)] h = some o := F90
                rcases E_if1 (tg := 78) rfl rfl E with ⟨hc, m102, hm103, E⟩ | ⟨hc, m104, hm105, E⟩
                ·
                  clear hc
                  obtain ⟨m106, hm107, E, hG⟩ := E_go (pc' := 98) (lv' := [(5, .int (gi (rk_pt h 118 8 (.int ((gi h 118 8) + (1 : Int32)))) 118 5)), (4, .int p), (0, .ref 118), (1, .int r), (2, .ref f), (3, .int t)]) (st' := [.int t, .ref f, .int r, .ref 118]) (h' := rk_pt h 118 8 (.int ((gi h 118 8) + (1 : Int32)))) 13 rfl E hG
                  try simp only [gi_y (k := 8) (k' := 5) (by decide)] at E hG
                  exact Or.inr (Or.inr (Or.inl ⟨c24, c41, c98, _, (by omega), hG, E⟩))
                · exact absurd (show ¬ ((0 : Int) = 0) from hc) (by decide)
              ·
                have c108 : ¬ (2000 < ((gi h 118 5) + (gi h (gr h 21 p.toNatClampNeg) 7)).toInt) := hc
                clear hc
                obtain ⟨m109, hm110, E90, hG⟩ := E_go (pc' := 23) (lv' := [(0, .ref 118), (1, .ref (gr h 21 p.toNatClampNeg)), (2, .int t)]) (st' := [.int (12 : Int32), .int (t + (gi h (gr h 21 p.toNatClampNeg) 8))]) (h' := h) 5 rfl E90 hG
                rcases E_if2 (tg := 30) rfl rfl E90 with ⟨hc, m111, hm112, E90⟩ | ⟨hc, m113, hm114, E90⟩
                ·
                  have c115 : 12 < (t + (gi h (gr h 21 p.toNatClampNeg) 8)).toInt := hc
                  clear hc
                  obtain ⟨m116, hm117, E90, hG⟩ := E_go (pc' := 31) (lv' := [(0, .ref 118), (1, .ref (gr h 21 p.toNatClampNeg)), (2, .int t)]) (st' := [.int (0 : Int32)]) (h' := h) 1 rfl E90 hG
                  have ho118 := E_reti rfl E90
                  subst ho118
                  have E : rk_ex m87 d rm_X2_enter 60 [(4, .int p), (0, .ref 118), (1, .int r), (2, .ref f), (3, .int t)] [.int (0 : Int32)] h = some o := F90
                  rcases E_if1 (tg := 78) rfl rfl E with ⟨hc, m119, hm120, E⟩ | ⟨hc, m121, hm122, E⟩
                  ·
                    clear hc
                    obtain ⟨m123, hm124, E, hG⟩ := E_go (pc' := 98) (lv' := [(5, .int (gi (rk_pt h 118 8 (.int ((gi h 118 8) + (1 : Int32)))) 118 5)), (4, .int p), (0, .ref 118), (1, .int r), (2, .ref f), (3, .int t)]) (st' := [.int t, .ref f, .int r, .ref 118]) (h' := rk_pt h 118 8 (.int ((gi h 118 8) + (1 : Int32)))) 13 rfl E hG
                    try simp only [gi_y (k := 8) (k' := 5) (by decide)] at E hG
                    exact Or.inr (Or.inr (Or.inr (Or.inl ⟨c24, c41, c108, c115, _, (by omega), hG, E⟩)))
                  · exact absurd (show ¬ ((0 : Int) = 0) from hc) (by decide)
                ·
                  have c125 : ¬ (12 < (t + (gi h (gr h 21 p.toNatClampNeg) 8)).toInt) := hc
                  clear hc
                  obtain ⟨m126, hm127, E90, hG⟩ := E_go (pc' := 31) (lv' := [(0, .ref 118), (1, .ref (gr h 21 p.toNatClampNeg)), (2, .int t)]) (st' := [.int (1 : Int32)]) (h' := h) 2 rfl E90 hG
                  have ho128 := E_reti rfl E90
                  subst ho128
                  have E : rk_ex m87 d rm_X2_enter 60 [(4, .int p), (0, .ref 118), (1, .int r), (2, .ref f), (3, .int t)] [.int (1 : Int32)] h = some o := F90
                  rcases E_if1 (tg := 78) rfl rfl E with ⟨hc, m129, hm130, E⟩ | ⟨hc, m131, hm132, E⟩
                  · exact absurd (show (1 : Int) = 0 from hc) (by decide)
                  ·
                    clear hc
                    obtain ⟨m133, hm134, E, hG⟩ := E_go (pc' := 70) (lv' := [(4, .int p), (0, .ref 118), (1, .int r), (2, .ref f), (3, .int t)]) (st' := [.int p, .ref 20, .ref 118]) (h' := h) 4 rfl E hG
                    obtain ⟨m135, d136, o137, hm139, E138, F138⟩ := E_call (ar := ([.ref 20, .int p], [.ref 118])) rfl rfl rfl rfl rfl rfl E
                    replace E138 : rk_ex m135 d136 rm_X5_at 0 [(0, .ref 20), (1, .int p)] [] h = some o137 := E138
                    obtain ⟨m140, hm141, E138, hG⟩ := E_go (pc' := 6) (lv' := [(0, .ref 20), (1, .int p)]) (st' := [.int p, .ref 20, .ref 21]) (h' := h) 4 rfl E138 hG
                    obtain ⟨m142, d143, o144, hm146, E145, F145⟩ := E_call (ar := ([.ref 20, .int p], [.ref 21])) rfl rfl rfl rfl rfl rfl E138
                    replace E145 : rk_ex m142 d143 rm_X5_has 0 [(0, .ref 20), (1, .int p)] [] h = some o144 := E145
                    obtain ⟨m147, hm148, E145, hG⟩ := E_go (pc' := 1) (lv' := [(0, .ref 20), (1, .int p)]) (st' := [.int p]) (h' := h) 1 rfl E145 hG
                    rcases E_if1 (tg := 16) rfl rfl E145 with ⟨hc, m149, hm150, E145⟩ | ⟨hc, m151, hm152, E145⟩
                    · exact absurd (show p.toInt < 0 from hc) (by omega)
                    ·
                      clear hc
                      obtain ⟨m153, hm154, E145, hG⟩ := E_go (pc' := 9) (lv' := [(0, .ref 20), (1, .int p)]) (st' := [.int (gi h 20 1), .int p]) (h' := h) 3 rfl E145 hG
                      rcases E_if2 (tg := 16) rfl rfl E145 with ⟨hc, m155, hm156, E145⟩ | ⟨hc, m157, hm158, E145⟩
                      · exact absurd hc c41
                      ·
                        clear hc
                        obtain ⟨m159, hm160, E145, hG⟩ := E_go (pc' := 17) (lv' := [(0, .ref 20), (1, .int p)]) (st' := [.int (1 : Int32)]) (h' := h) 2 rfl E145 hG
                        have ho161 := E_reti rfl E145
                        subst ho161
                        have E138 : rk_ex m142 d136 rm_X5_at 9 [(0, .ref 20), (1, .int p)] [.int (1 : Int32), .ref 21] h = some o137 := F145
                        rcases E_if1 (tg := 16) rfl rfl E138 with ⟨hc, m162, hm163, E138⟩ | ⟨hc, m164, hm165, E138⟩
                        · exact absurd (show (1 : Int) = 0 from hc) (by decide)
                        ·
                          clear hc
                          obtain ⟨m166, hm167, E138, hG⟩ := E_go (pc' := 18) (lv' := [(0, .ref 20), (1, .int p)]) (st' := [.ref (gr h 21 p.toNatClampNeg)]) (h' := h) 3 rfl E138 hG
                          have ho168 := E_reta rfl E138
                          subst ho168
                          have E : rk_ex m135 d rm_X2_enter 73 [(4, .int p), (0, .ref 118), (1, .int r), (2, .ref f), (3, .int t)] [.ref (gr h 21 p.toNatClampNeg), .ref 118] h = some o := F138
                          obtain ⟨m169, hm170, E, hG⟩ := E_go (pc' := 74) (lv' := [(4, .int p), (0, .ref 118), (1, .int r), (2, .ref f), (3, .int t)]) (st' := [.ref f, .ref (gr h 21 p.toNatClampNeg), .ref 118]) (h' := h) 1 rfl E hG
                          exact Or.inr (Or.inr (Or.inr (Or.inr ⟨c24, c41, c108, c125, _, (by omega), hG, E⟩)))
set_option maxRecDepth 100000 in
set_option maxHeartbeats 4000000 in
theorem yc_en3 {n d : Nat} {h : rk_S} {o : Option Value × rk_S} {f : Nat} {r t p y : Int32} (hG : yG h) (hf : 120 ≤ f) (hf2 : f ≤ 153) (E : rk_ex n d rm_X2_enter 77 [(4, .int p), (0, .ref 118), (1, .int r), (2, .ref f), (3, .int t)] [.int y] h = some o) :
    (yG h ∧ o = (some (.int y), h)) := by
  have ho1 := E_reti rfl E
  exact ⟨hG, ho1⟩
set_option maxRecDepth 100000 in
set_option maxHeartbeats 4000000 in
theorem yc_en4 {n d : Nat} {h : rk_S} {o : Option Value × rk_S} {f : Nat} {r t p s e : Int32} (hG : yG h) (hf : 120 ≤ f) (hf2 : f ≤ 153) (E : rk_ex n d rm_X2_enter 101 [(5, .int s), (4, .int p), (0, .ref 118), (1, .int r), (2, .ref f), (3, .int t)] [.int e] h = some o) :
    (e.toInt = 5 ∧ yG h ∧ o = (some (.int e), h)) ∨
    (¬ (e.toInt = 5) ∧ e.toInt = 6 ∧ yG h ∧ o = (some (.int e), h)) ∨
    (¬ (e.toInt = 5) ∧ ¬ (e.toInt = 6) ∧ ∃ m, m < n + 1 ∧ yG h ∧ rk_ex m d rm_X2_enter 135 [(6, .int e), (5, .int s), (4, .int p), (0, .ref 118), (1, .int r), (2, .ref f), (3, .int t)] [.int ((gi h 118 5) - s), .int e, .ref 18, .ref f, .int r, .ref 20] h = some o) := by
  obtain ⟨m1, hm2, E, hG⟩ := E_go (pc' := 106) (lv' := [(6, .int e), (5, .int s), (4, .int p), (0, .ref 118), (1, .int r), (2, .ref f), (3, .int t)]) (st' := [.int (5 : Int32), .int e]) (h' := h) 3 rfl E hG
  rcases E_if2 (tg := 138) rfl rfl E with ⟨hc, m3, hm4, E⟩ | ⟨hc, m5, hm6, E⟩
  ·
    have c7 : e.toInt = 5 := hc
    clear hc
    obtain ⟨m8, hm9, E, hG⟩ := E_go (pc' := 140) (lv' := [(6, .int e), (5, .int s), (4, .int p), (0, .ref 118), (1, .int r), (2, .ref f), (3, .int t)]) (st' := [.int e]) (h' := h) 1 rfl E hG
    have ho10 := E_reti rfl E
    exact Or.inl ⟨c7, hG, ho10⟩
  ·
    have c11 : ¬ (e.toInt = 5) := hc
    clear hc
    obtain ⟨m12, hm13, E, hG⟩ := E_go (pc' := 113) (lv' := [(6, .int e), (5, .int s), (4, .int p), (0, .ref 118), (1, .int r), (2, .ref f), (3, .int t)]) (st' := [.int (6 : Int32), .int e]) (h' := h) 2 rfl E hG
    rcases E_if2 (tg := 138) rfl rfl E with ⟨hc, m14, hm15, E⟩ | ⟨hc, m16, hm17, E⟩
    ·
      have c18 : e.toInt = 6 := hc
      clear hc
      obtain ⟨m19, hm20, E, hG⟩ := E_go (pc' := 140) (lv' := [(6, .int e), (5, .int s), (4, .int p), (0, .ref 118), (1, .int r), (2, .ref f), (3, .int t)]) (st' := [.int e]) (h' := h) 1 rfl E hG
      have ho21 := E_reti rfl E
      exact Or.inr (Or.inl ⟨c11, c18, hG, ho21⟩)
    ·
      have c22 : ¬ (e.toInt = 6) := hc
      clear hc
      obtain ⟨m23, hm24, E, hG⟩ := E_go (pc' := 135) (lv' := [(6, .int e), (5, .int s), (4, .int p), (0, .ref 118), (1, .int r), (2, .ref f), (3, .int t)]) (st' := [.int ((gi h 118 5) - s), .int e, .ref 18, .ref f, .int r, .ref 20]) (h' := h) 11 rfl E hG
      exact Or.inr (Or.inr ⟨c11, c22, _, (by omega), hG, E⟩)
set_option maxRecDepth 100000 in
set_option maxHeartbeats 4000000 in
theorem yc_en5 {n d : Nat} {h : rk_S} {o : Option Value × rk_S} {f : Nat} {r t p s e : Int32} (hG : yG h) (hf : 120 ≤ f) (hf2 : f ≤ 153) (E : rk_ex n d rm_X2_enter 138 [(6, .int e), (5, .int s), (4, .int p), (0, .ref 118), (1, .int r), (2, .ref f), (3, .int t)] [] h = some o) :
    (yG h ∧ o = (some (.int e), h)) := by
  obtain ⟨m1, hm2, E, hG⟩ := E_go (pc' := 140) (lv' := [(6, .int e), (5, .int s), (4, .int p), (0, .ref 118), (1, .int r), (2, .ref f), (3, .int t)]) (st' := [.int e]) (h' := h) 1 rfl E hG
  have ho3 := E_reti rfl E
  exact ⟨hG, ho3⟩
set_option maxRecDepth 100000 in
set_option maxHeartbeats 4000000 in
theorem yc_rec {n d : Nat} {h : rk_S} {o : Option Value × rk_S} {f k : Nat} (hG : yG h) (hf : 120 ≤ f) (hf2 : f ≤ 153) (hk : 22 ≤ k) (hk2 : k ≤ 115) (e204 : yE 20 4 h) (E : rk_ex n d rm_X2_recall 0 [(0, .ref 118), (1, .ref k), (2, .ref f)] [] h = some o) :
    (yG (rk_pt (rk_pt (rk_pt (rk_pt (rk_pt (rk_pt (rk_pt (rk_pt h 118 7 (.int ((gi h 118 7) + (1 : Int32)))) k 9 (.int ((gi h k 9) + (1 : Int32)))) 20 4 (.int ((gi h 20 4) + (1 : Int32)))) k 10 (.int ((gi h 20 4) + (1 : Int32)))) 118 5 (.int ((gi h 118 5) + (gi h k 7)))) f 4 (.int (gi h k 4))) f 5 (.int (gi h k 8))) f 6 (.int (gi h k 5))) ∧ o = (some (.int (gi h k 6)), rk_pt (rk_pt (rk_pt (rk_pt (rk_pt (rk_pt (rk_pt (rk_pt h 118 7 (.int ((gi h 118 7) + (1 : Int32)))) k 9 (.int ((gi h k 9) + (1 : Int32)))) 20 4 (.int ((gi h 20 4) + (1 : Int32)))) k 10 (.int ((gi h 20 4) + (1 : Int32)))) 118 5 (.int ((gi h 118 5) + (gi h k 7)))) f 4 (.int (gi h k 4))) f 5 (.int (gi h k 8))) f 6 (.int (gi h k 5)))) := by
  obtain ⟨m1, hm2, E, hG⟩ := E_go (pc' := 25) (lv' := [(0, .ref 118), (1, .ref k), (2, .ref f)]) (st' := [.ref k, .ref 20]) (h' := rk_pt (rk_pt h 118 7 (.int ((gi h 118 7) + (1 : Int32)))) k 9 (.int ((gi (rk_pt h 118 7 (.int ((gi h 118 7) + (1 : Int32)))) k 9) + (1 : Int32)))) 15 rfl E hG
  try simp only [gi_x (a := 118) (a' := k) (by omega)] at E hG
  obtain ⟨m3, d4, o5, hm7, E6, F6⟩ := E_call (ar := ([.ref 20, .ref k], [])) rfl rfl rfl rfl rfl rfl E
  replace E6 : rk_ex m3 d4 rm_X5_touch 0 [(0, .ref 20), (1, .ref k)] [] (rk_pt (rk_pt h 118 7 (.int ((gi h 118 7) + (1 : Int32)))) k 9 (.int ((gi h k 9) + (1 : Int32)))) = some o5 := E6
  obtain ⟨m8, hm9, E6, hG⟩ := E_go (pc' := 18) (lv' := [(0, .ref 20), (1, .ref k)]) (st' := []) (h' := rk_pt (rk_pt (rk_pt (rk_pt h 118 7 (.int ((gi h 118 7) + (1 : Int32)))) k 9 (.int ((gi h k 9) + (1 : Int32)))) 20 4 (.int ((gi (rk_pt (rk_pt h 118 7 (.int ((gi h 118 7) + (1 : Int32)))) k 9 (.int ((gi h k 9) + (1 : Int32)))) 20 4) + (1 : Int32)))) k 10 (.int (gi (rk_pt (rk_pt (rk_pt h 118 7 (.int ((gi h 118 7) + (1 : Int32)))) k 9 (.int ((gi h k 9) + (1 : Int32)))) 20 4 (.int ((gi (rk_pt (rk_pt h 118 7 (.int ((gi h 118 7) + (1 : Int32)))) k 9 (.int ((gi h k 9) + (1 : Int32)))) 20 4) + (1 : Int32)))) 20 4))) 10 rfl E6 hG
  try simp only [gi_x (a := k) (a' := 20) (by omega), gi_x (a := 118) (a' := 20) (by decide), gi_s, yE_pt, e204] at E6 hG
  have ho10 := E_retv rfl E6
  subst ho10
  have E : rk_ex m3 d rm_X2_recall 28 [(0, .ref 118), (1, .ref k), (2, .ref f)] [] (rk_pt (rk_pt (rk_pt (rk_pt h 118 7 (.int ((gi h 118 7) + (1 : Int32)))) k 9 (.int ((gi h k 9) + (1 : Int32)))) 20 4 (.int ((gi h 20 4) + (1 : Int32)))) k 10 (.int ((gi h 20 4) + (1 : Int32)))) = some o := F6
  obtain ⟨m11, hm12, E, hG⟩ := E_go (pc' := 69) (lv' := [(0, .ref 118), (1, .ref k), (2, .ref f)]) (st' := [.int (gi (rk_pt (rk_pt (rk_pt (rk_pt (rk_pt (rk_pt (rk_pt (rk_pt h 118 7 (.int ((gi h 118 7) + (1 : Int32)))) k 9 (.int ((gi h k 9) + (1 : Int32)))) 20 4 (.int ((gi h 20 4) + (1 : Int32)))) k 10 (.int ((gi h 20 4) + (1 : Int32)))) 118 5 (.int ((gi (rk_pt (rk_pt (rk_pt (rk_pt h 118 7 (.int ((gi h 118 7) + (1 : Int32)))) k 9 (.int ((gi h k 9) + (1 : Int32)))) 20 4 (.int ((gi h 20 4) + (1 : Int32)))) k 10 (.int ((gi h 20 4) + (1 : Int32)))) 118 5) + (gi (rk_pt (rk_pt (rk_pt (rk_pt h 118 7 (.int ((gi h 118 7) + (1 : Int32)))) k 9 (.int ((gi h k 9) + (1 : Int32)))) 20 4 (.int ((gi h 20 4) + (1 : Int32)))) k 10 (.int ((gi h 20 4) + (1 : Int32)))) k 7)))) f 4 (.int (gi (rk_pt (rk_pt (rk_pt (rk_pt (rk_pt h 118 7 (.int ((gi h 118 7) + (1 : Int32)))) k 9 (.int ((gi h k 9) + (1 : Int32)))) 20 4 (.int ((gi h 20 4) + (1 : Int32)))) k 10 (.int ((gi h 20 4) + (1 : Int32)))) 118 5 (.int ((gi (rk_pt (rk_pt (rk_pt (rk_pt h 118 7 (.int ((gi h 118 7) + (1 : Int32)))) k 9 (.int ((gi h k 9) + (1 : Int32)))) 20 4 (.int ((gi h 20 4) + (1 : Int32)))) k 10 (.int ((gi h 20 4) + (1 : Int32)))) 118 5) + (gi (rk_pt (rk_pt (rk_pt (rk_pt h 118 7 (.int ((gi h 118 7) + (1 : Int32)))) k 9 (.int ((gi h k 9) + (1 : Int32)))) 20 4 (.int ((gi h 20 4) + (1 : Int32)))) k 10 (.int ((gi h 20 4) + (1 : Int32)))) k 7)))) k 4))) f 5 (.int (gi (rk_pt (rk_pt (rk_pt (rk_pt (rk_pt (rk_pt h 118 7 (.int ((gi h 118 7) + (1 : Int32)))) k 9 (.int ((gi h k 9) + (1 : Int32)))) 20 4 (.int ((gi h 20 4) + (1 : Int32)))) k 10 (.int ((gi h 20 4) + (1 : Int32)))) 118 5 (.int ((gi (rk_pt (rk_pt (rk_pt (rk_pt h 118 7 (.int ((gi h 118 7) + (1 : Int32)))) k 9 (.int ((gi h k 9) + (1 : Int32)))) 20 4 (.int ((gi h 20 4) + (1 : Int32)))) k 10 (.int ((gi h 20 4) + (1 : Int32)))) 118 5) + (gi (rk_pt (rk_pt (rk_pt (rk_pt h 118 7 (.int ((gi h 118 7) + (1 : Int32)))) k 9 (.int ((gi h k 9) + (1 : Int32)))) 20 4 (.int ((gi h 20 4) + (1 : Int32)))) k 10 (.int ((gi h 20 4) + (1 : Int32)))) k 7)))) f 4 (.int (gi (rk_pt (rk_pt (rk_pt (rk_pt (rk_pt h 118 7 (.int ((gi h 118 7) + (1 : Int32)))) k 9 (.int ((gi h k 9) + (1 : Int32)))) 20 4 (.int ((gi h 20 4) + (1 : Int32)))) k 10 (.int ((gi h 20 4) + (1 : Int32)))) 118 5 (.int ((gi (rk_pt (rk_pt (rk_pt (rk_pt h 118 7 (.int ((gi h 118 7) + (1 : Int32)))) k 9 (.int ((gi h k 9) + (1 : Int32)))) 20 4 (.int ((gi h 20 4) + (1 : Int32)))) k 10 (.int ((gi h 20 4) + (1 : Int32)))) 118 5) + (gi (rk_pt (rk_pt (rk_pt (rk_pt h 118 7 (.int ((gi h 118 7) + (1 : Int32)))) k 9 (.int ((gi h k 9) + (1 : Int32)))) 20 4 (.int ((gi h 20 4) + (1 : Int32)))) k 10 (.int ((gi h 20 4) + (1 : Int32)))) k 7)))) k 4))) k 8))) f 6 (.int (gi (rk_pt (rk_pt (rk_pt (rk_pt (rk_pt (rk_pt (rk_pt h 118 7 (.int ((gi h 118 7) + (1 : Int32)))) k 9 (.int ((gi h k 9) + (1 : Int32)))) 20 4 (.int ((gi h 20 4) + (1 : Int32)))) k 10 (.int ((gi h 20 4) + (1 : Int32)))) 118 5 (.int ((gi (rk_pt (rk_pt (rk_pt (rk_pt h 118 7 (.int ((gi h 118 7) + (1 : Int32)))) k 9 (.int ((gi h k 9) + (1 : Int32)))) 20 4 (.int ((gi h 20 4) + (1 : Int32)))) k 10 (.int ((gi h 20 4) + (1 : Int32)))) 118 5) + (gi (rk_pt (rk_pt (rk_pt (rk_pt h 118 7 (.int ((gi h 118 7) + (1 : Int32)))) k 9 (.int ((gi h k 9) + (1 : Int32)))) 20 4 (.int ((gi h 20 4) + (1 : Int32)))) k 10 (.int ((gi h 20 4) + (1 : Int32)))) k 7)))) f 4 (.int (gi (rk_pt (rk_pt (rk_pt (rk_pt (rk_pt h 118 7 (.int ((gi h 118 7) + (1 : Int32)))) k 9 (.int ((gi h k 9) + (1 : Int32)))) 20 4 (.int ((gi h 20 4) + (1 : Int32)))) k 10 (.int ((gi h 20 4) + (1 : Int32)))) 118 5 (.int ((gi (rk_pt (rk_pt (rk_pt (rk_pt h 118 7 (.int ((gi h 118 7) + (1 : Int32)))) k 9 (.int ((gi h k 9) + (1 : Int32)))) 20 4 (.int ((gi h 20 4) + (1 : Int32)))) k 10 (.int ((gi h 20 4) + (1 : Int32)))) 118 5) + (gi (rk_pt (rk_pt (rk_pt (rk_pt h 118 7 (.int ((gi h 118 7) + (1 : Int32)))) k 9 (.int ((gi h k 9) + (1 : Int32)))) 20 4 (.int ((gi h 20 4) + (1 : Int32)))) k 10 (.int ((gi h 20 4) + (1 : Int32)))) k 7)))) k 4))) f 5 (.int (gi (rk_pt (rk_pt (rk_pt (rk_pt (rk_pt (rk_pt h 118 7 (.int ((gi h 118 7) + (1 : Int32)))) k 9 (.int ((gi h k 9) + (1 : Int32)))) 20 4 (.int ((gi h 20 4) + (1 : Int32)))) k 10 (.int ((gi h 20 4) + (1 : Int32)))) 118 5 (.int ((gi (rk_pt (rk_pt (rk_pt (rk_pt h 118 7 (.int ((gi h 118 7) + (1 : Int32)))) k 9 (.int ((gi h k 9) + (1 : Int32)))) 20 4 (.int ((gi h 20 4) + (1 : Int32)))) k 10 (.int ((gi h 20 4) + (1 : Int32)))) 118 5) + (gi (rk_pt (rk_pt (rk_pt (rk_pt h 118 7 (.int ((gi h 118 7) + (1 : Int32)))) k 9 (.int ((gi h k 9) + (1 : Int32)))) 20 4 (.int ((gi h 20 4) + (1 : Int32)))) k 10 (.int ((gi h 20 4) + (1 : Int32)))) k 7)))) f 4 (.int (gi (rk_pt (rk_pt (rk_pt (rk_pt (rk_pt h 118 7 (.int ((gi h 118 7) + (1 : Int32)))) k 9 (.int ((gi h k 9) + (1 : Int32)))) 20 4 (.int ((gi h 20 4) + (1 : Int32)))) k 10 (.int ((gi h 20 4) + (1 : Int32)))) 118 5 (.int ((gi (rk_pt (rk_pt (rk_pt (rk_pt h 118 7 (.int ((gi h 118 7) + (1 : Int32)))) k 9 (.int ((gi h k 9) + (1 : Int32)))) 20 4 (.int ((gi h 20 4) + (1 : Int32)))) k 10 (.int ((gi h 20 4) + (1 : Int32)))) 118 5) + (gi (rk_pt (rk_pt (rk_pt (rk_pt h 118 7 (.int ((gi h 118 7) + (1 : Int32)))) k 9 (.int ((gi h k 9) + (1 : Int32)))) 20 4 (.int ((gi h 20 4) + (1 : Int32)))) k 10 (.int ((gi h 20 4) + (1 : Int32)))) k 7)))) k 4))) k 8))) k 5))) k 6)]) (h' := rk_pt (rk_pt (rk_pt (rk_pt (rk_pt (rk_pt (rk_pt (rk_pt h 118 7 (.int ((gi h 118 7) + (1 : Int32)))) k 9 (.int ((gi h k 9) + (1 : Int32)))) 20 4 (.int ((gi h 20 4) + (1 : Int32)))) k 10 (.int ((gi h 20 4) + (1 : Int32)))) 118 5 (.int ((gi (rk_pt (rk_pt (rk_pt (rk_pt h 118 7 (.int ((gi h 118 7) + (1 : Int32)))) k 9 (.int ((gi h k 9) + (1 : Int32)))) 20 4 (.int ((gi h 20 4) + (1 : Int32)))) k 10 (.int ((gi h 20 4) + (1 : Int32)))) 118 5) + (gi (rk_pt (rk_pt (rk_pt (rk_pt h 118 7 (.int ((gi h 118 7) + (1 : Int32)))) k 9 (.int ((gi h k 9) + (1 : Int32)))) 20 4 (.int ((gi h 20 4) + (1 : Int32)))) k 10 (.int ((gi h 20 4) + (1 : Int32)))) k 7)))) f 4 (.int (gi (rk_pt (rk_pt (rk_pt (rk_pt (rk_pt h 118 7 (.int ((gi h 118 7) + (1 : Int32)))) k 9 (.int ((gi h k 9) + (1 : Int32)))) 20 4 (.int ((gi h 20 4) + (1 : Int32)))) k 10 (.int ((gi h 20 4) + (1 : Int32)))) 118 5 (.int ((gi (rk_pt (rk_pt (rk_pt (rk_pt h 118 7 (.int ((gi h 118 7) + (1 : Int32)))) k 9 (.int ((gi h k 9) + (1 : Int32)))) 20 4 (.int ((gi h 20 4) + (1 : Int32)))) k 10 (.int ((gi h 20 4) + (1 : Int32)))) 118 5) + (gi (rk_pt (rk_pt (rk_pt (rk_pt h 118 7 (.int ((gi h 118 7) + (1 : Int32)))) k 9 (.int ((gi h k 9) + (1 : Int32)))) 20 4 (.int ((gi h 20 4) + (1 : Int32)))) k 10 (.int ((gi h 20 4) + (1 : Int32)))) k 7)))) k 4))) f 5 (.int (gi (rk_pt (rk_pt (rk_pt (rk_pt (rk_pt (rk_pt h 118 7 (.int ((gi h 118 7) + (1 : Int32)))) k 9 (.int ((gi h k 9) + (1 : Int32)))) 20 4 (.int ((gi h 20 4) + (1 : Int32)))) k 10 (.int ((gi h 20 4) + (1 : Int32)))) 118 5 (.int ((gi (rk_pt (rk_pt (rk_pt (rk_pt h 118 7 (.int ((gi h 118 7) + (1 : Int32)))) k 9 (.int ((gi h k 9) + (1 : Int32)))) 20 4 (.int ((gi h 20 4) + (1 : Int32)))) k 10 (.int ((gi h 20 4) + (1 : Int32)))) 118 5) + (gi (rk_pt (rk_pt (rk_pt (rk_pt h 118 7 (.int ((gi h 118 7) + (1 : Int32)))) k 9 (.int ((gi h k 9) + (1 : Int32)))) 20 4 (.int ((gi h 20 4) + (1 : Int32)))) k 10 (.int ((gi h 20 4) + (1 : Int32)))) k 7)))) f 4 (.int (gi (rk_pt (rk_pt (rk_pt (rk_pt (rk_pt h 118 7 (.int ((gi h 118 7) + (1 : Int32)))) k 9 (.int ((gi h k 9) + (1 : Int32)))) 20 4 (.int ((gi h 20 4) + (1 : Int32)))) k 10 (.int ((gi h 20 4) + (1 : Int32)))) 118 5 (.int ((gi (rk_pt (rk_pt (rk_pt (rk_pt h 118 7 (.int ((gi h 118 7) + (1 : Int32)))) k 9 (.int ((gi h k 9) + (1 : Int32)))) 20 4 (.int ((gi h 20 4) + (1 : Int32)))) k 10 (.int ((gi h 20 4) + (1 : Int32)))) 118 5) + (gi (rk_pt (rk_pt (rk_pt (rk_pt h 118 7 (.int ((gi h 118 7) + (1 : Int32)))) k 9 (.int ((gi h k 9) + (1 : Int32)))) 20 4 (.int ((gi h 20 4) + (1 : Int32)))) k 10 (.int ((gi h 20 4) + (1 : Int32)))) k 7)))) k 4))) k 8))) f 6 (.int (gi (rk_pt (rk_pt (rk_pt (rk_pt (rk_pt (rk_pt (rk_pt h 118 7 (.int ((gi h 118 7) + (1 : Int32)))) k 9 (.int ((gi h k 9) + (1 : Int32)))) 20 4 (.int ((gi h 20 4) + (1 : Int32)))) k 10 (.int ((gi h 20 4) + (1 : Int32)))) 118 5 (.int ((gi (rk_pt (rk_pt (rk_pt (rk_pt h 118 7 (.int ((gi h 118 7) + (1 : Int32)))) k 9 (.int ((gi h k 9) + (1 : Int32)))) 20 4 (.int ((gi h 20 4) + (1 : Int32)))) k 10 (.int ((gi h 20 4) + (1 : Int32)))) 118 5) + (gi (rk_pt (rk_pt (rk_pt (rk_pt h 118 7 (.int ((gi h 118 7) + (1 : Int32)))) k 9 (.int ((gi h k 9) + (1 : Int32)))) 20 4 (.int ((gi h 20 4) + (1 : Int32)))) k 10 (.int ((gi h 20 4) + (1 : Int32)))) k 7)))) f 4 (.int (gi (rk_pt (rk_pt (rk_pt (rk_pt (rk_pt h 118 7 (.int ((gi h 118 7) + (1 : Int32)))) k 9 (.int ((gi h k 9) + (1 : Int32)))) 20 4 (.int ((gi h 20 4) + (1 : Int32)))) k 10 (.int ((gi h 20 4) + (1 : Int32)))) 118 5 (.int ((gi (rk_pt (rk_pt (rk_pt (rk_pt h 118 7 (.int ((gi h 118 7) + (1 : Int32)))) k 9 (.int ((gi h k 9) + (1 : Int32)))) 20 4 (.int ((gi h 20 4) + (1 : Int32)))) k 10 (.int ((gi h 20 4) + (1 : Int32)))) 118 5) + (gi (rk_pt (rk_pt (rk_pt (rk_pt h 118 7 (.int ((gi h 118 7) + (1 : Int32)))) k 9 (.int ((gi h k 9) + (1 : Int32)))) 20 4 (.int ((gi h 20 4) + (1 : Int32)))) k 10 (.int ((gi h 20 4) + (1 : Int32)))) k 7)))) k 4))) f 5 (.int (gi (rk_pt (rk_pt (rk_pt (rk_pt (rk_pt (rk_pt h 118 7 (.int ((gi h 118 7) + (1 : Int32)))) k 9 (.int ((gi h k 9) + (1 : Int32)))) 20 4 (.int ((gi h 20 4) + (1 : Int32)))) k 10 (.int ((gi h 20 4) + (1 : Int32)))) 118 5 (.int ((gi (rk_pt (rk_pt (rk_pt (rk_pt h 118 7 (.int ((gi h 118 7) + (1 : Int32)))) k 9 (.int ((gi h k 9) + (1 : Int32)))) 20 4 (.int ((gi h 20 4) + (1 : Int32)))) k 10 (.int ((gi h 20 4) + (1 : Int32)))) 118 5) + (gi (rk_pt (rk_pt (rk_pt (rk_pt h 118 7 (.int ((gi h 118 7) + (1 : Int32)))) k 9 (.int ((gi h k 9) + (1 : Int32)))) 20 4 (.int ((gi h 20 4) + (1 : Int32)))) k 10 (.int ((gi h 20 4) + (1 : Int32)))) k 7)))) f 4 (.int (gi (rk_pt (rk_pt (rk_pt (rk_pt (rk_pt h 118 7 (.int ((gi h 118 7) + (1 : Int32)))) k 9 (.int ((gi h k 9) + (1 : Int32)))) 20 4 (.int ((gi h 20 4) + (1 : Int32)))) k 10 (.int ((gi h 20 4) + (1 : Int32)))) 118 5 (.int ((gi (rk_pt (rk_pt (rk_pt (rk_pt h 118 7 (.int ((gi h 118 7) + (1 : Int32)))) k 9 (.int ((gi h k 9) + (1 : Int32)))) 20 4 (.int ((gi h 20 4) + (1 : Int32)))) k 10 (.int ((gi h 20 4) + (1 : Int32)))) 118 5) + (gi (rk_pt (rk_pt (rk_pt (rk_pt h 118 7 (.int ((gi h 118 7) + (1 : Int32)))) k 9 (.int ((gi h k 9) + (1 : Int32)))) 20 4 (.int ((gi h 20 4) + (1 : Int32)))) k 10 (.int ((gi h 20 4) + (1 : Int32)))) k 7)))) k 4))) k 8))) k 5))) 21 rfl E hG
  try simp only [gi_x (a := k) (a' := 118) (by omega), gi_x (a := 20) (a' := 118) (by decide), gi_x (a := k) (a' := 118) (by omega), gi_y (k := 7) (k' := 5) (by decide), gi_y (k := 10) (k' := 7) (by decide), gi_x (a := 20) (a' := k) (by omega), gi_y (k := 9) (k' := 7) (by decide), gi_x (a := 118) (a' := k) (by omega), gi_y (k := 10) (k' := 4) (by decide), gi_y (k := 9) (k' := 4) (by decide), gi_x (a := f) (a' := k) (by omega), gi_y (k := 10) (k' := 8) (by decide), gi_y (k := 9) (k' := 8) (by decide), gi_y (k := 10) (k' := 5) (by decide), gi_y (k := 9) (k' := 5) (by decide), gi_y (k := 10) (k' := 6) (by decide), gi_y (k := 9) (k' := 6) (by decide)] at E hG
  have ho13 := E_reti rfl E
  exact ⟨hG, ho13⟩
set_option maxRecDepth 100000 in
set_option maxHeartbeats 4000000 in
theorem yc_st {n d : Nat} {h : rk_S} {o : Option Value × rk_S} {r a b c w : Int32} (hG : yG h) (E : rk_ex n d rm_X2_start 0 [(0, .ref 118), (1, .int r), (2, .int a), (3, .int b), (4, .int c), (5, .int w)] [] h = some o) :
    (∃ m, m < n + 1 ∧ yG (rk_pt (rk_pt (rk_pt (rk_pt (rk_pt h 118 4 (.int w)) 118 5 (.int (0 : Int32))) 118 6 (.int (0 : Int32))) 118 7 (.int (0 : Int32))) 118 8 (.int (0 : Int32))) ∧ rk_ex m d rm_X2_start 40 [(6, .ref 120), (0, .ref 118), (1, .int r), (2, .int a), (3, .int b), (4, .int c), (5, .int w)] [.int c, .int b, .int a, .ref 120] (rk_pt (rk_pt (rk_pt (rk_pt (rk_pt h 118 4 (.int w)) 118 5 (.int (0 : Int32))) 118 6 (.int (0 : Int32))) 118 7 (.int (0 : Int32))) 118 8 (.int (0 : Int32))) = some o) := by
  obtain ⟨m1, hm2, E, hG⟩ := E_go (pc' := 40) (lv' := [(6, .ref 120), (0, .ref 118), (1, .int r), (2, .int a), (3, .int b), (4, .int c), (5, .int w)]) (st' := [.int c, .int b, .int a, .ref 120]) (h' := rk_pt (rk_pt (rk_pt (rk_pt (rk_pt h 118 4 (.int w)) 118 5 (.int (0 : Int32))) 118 6 (.int (0 : Int32))) 118 7 (.int (0 : Int32))) 118 8 (.int (0 : Int32))) 24 rfl E hG
  exact ⟨_, (by omega), hG, E⟩
set_option maxRecDepth 100000 in
set_option maxHeartbeats 4000000 in
theorem yc_st1 {n d : Nat} {h : rk_S} {o : Option Value × rk_S} {r a b c w : Int32} (hG : yG h) (E : rk_ex n d rm_X2_start 43 [(6, .ref 120), (0, .ref 118), (1, .int r), (2, .int a), (3, .int b), (4, .int c), (5, .int w)] [] h = some o) :
    (∃ m, m < n + 1 ∧ yG h ∧ rk_ex m d rm_X2_start 48 [(6, .ref 120), (0, .ref 118), (1, .int r), (2, .int a), (3, .int b), (4, .int c), (5, .int w)] [.int (1 : Int32), .ref 120, .int r, .ref 118] h = some o) := by
  obtain ⟨m1, hm2, E, hG⟩ := E_go (pc' := 48) (lv' := [(6, .ref 120), (0, .ref 118), (1, .int r), (2, .int a), (3, .int b), (4, .int c), (5, .int w)]) (st' := [.int (1 : Int32), .ref 120, .int r, .ref 118]) (h' := h) 4 rfl E hG
  exact ⟨_, (by omega), hG, E⟩
set_option maxRecDepth 100000 in
set_option maxHeartbeats 4000000 in
theorem yc_st2 {n d : Nat} {h : rk_S} {o : Option Value × rk_S} {r a b c w e : Int32} (hG : yG h) (E : rk_ex n d rm_X2_start 51 [(6, .ref 120), (0, .ref 118), (1, .int r), (2, .int a), (3, .int b), (4, .int c), (5, .int w)] [.int e] h = some o) :
    (¬ e.toInt = 6 ∧ yG (rk_pt (rk_pt (rk_pt h 118 10 (.int e)) 118 11 (.int (gi h 120 6))) 118 9 (.int ((gi h 120 5) + (1 : Int32)))) ∧ o = (none, rk_pt (rk_pt (rk_pt h 118 10 (.int e)) 118 11 (.int (gi h 120 6))) 118 9 (.int ((gi h 120 5) + (1 : Int32))))) ∨
    (e.toInt = 6 ∧ yG (rk_pt (rk_pt (rk_pt h 118 10 (.int (4 : Int32))) 118 11 (.int (gi h 120 6))) 118 9 (.int ((gi h 120 5) + (1 : Int32)))) ∧ o = (none, rk_pt (rk_pt (rk_pt h 118 10 (.int (4 : Int32))) 118 11 (.int (gi h 120 6))) 118 9 (.int ((gi h 120 5) + (1 : Int32))))) := by
  obtain ⟨m1, hm2, E, hG⟩ := E_go (pc' := 58) (lv' := [(7, .int e), (6, .ref 120), (0, .ref 118), (1, .int r), (2, .int a), (3, .int b), (4, .int c), (5, .int w)]) (st' := [.int (6 : Int32), .int e, .ref 118]) (h' := h) 4 rfl E hG
  rcases E_if2 (tg := 65) rfl rfl E with ⟨hc, m3, hm4, E⟩ | ⟨hc, m5, hm6, E⟩
  ·
    have c7 : ¬ e.toInt = 6 := hc
    clear hc
    obtain ⟨m8, hm9, E, hG⟩ := E_go (pc' := 90) (lv' := [(7, .int e), (6, .ref 120), (0, .ref 118), (1, .int r), (2, .int a), (3, .int b), (4, .int c), (5, .int w)]) (st' := []) (h' := rk_pt (rk_pt (rk_pt h 118 10 (.int e)) 118 11 (.int (gi (rk_pt h 118 10 (.int e)) 120 6))) 118 9 (.int ((gi (rk_pt (rk_pt h 118 10 (.int e)) 118 11 (.int (gi (rk_pt h 118 10 (.int e)) 120 6))) 120 5) + (1 : Int32)))) 12 rfl E hG
    try simp only [gi_x (a := 118) (a' := 120) (by decide)] at E hG
    have ho10 := E_retv rfl E
    exact Or.inl ⟨c7, hG, ho10⟩
  ·
    have c11 : e.toInt = 6 := Decidable.not_not.mp hc
    clear hc
    obtain ⟨m12, hm13, E, hG⟩ := E_go (pc' := 90) (lv' := [(7, .int e), (6, .ref 120), (0, .ref 118), (1, .int r), (2, .int a), (3, .int b), (4, .int c), (5, .int w)]) (st' := []) (h' := rk_pt (rk_pt (rk_pt h 118 10 (.int (4 : Int32))) 118 11 (.int (gi (rk_pt h 118 10 (.int (4 : Int32))) 120 6))) 118 9 (.int ((gi (rk_pt (rk_pt h 118 10 (.int (4 : Int32))) 118 11 (.int (gi (rk_pt h 118 10 (.int (4 : Int32))) 120 6))) 120 5) + (1 : Int32)))) 13 rfl E hG
    try simp only [gi_x (a := 118) (a' := 120) (by decide)] at E hG
    have ho14 := E_retv rfl E
    exact Or.inr ⟨c11, hG, ho14⟩
