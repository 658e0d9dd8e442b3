/-! pieces of the reference's runs (laid by wip/gen/y10m.py) -/
set_option maxRecDepth 100000 in
set_option maxHeartbeats 4000000 in
theorem ym_put {n d : Nat} {h : rk_S} {o : Option Value × rk_S} {f v : Int32} (hG : yG h) (E : rk_ex n d rm_X8_put 0 [(0, .ref 316), (1, .int f), (2, .int v)] [] h = some o) :
    (¬ (gi h 337 f.toNatClampNeg).toInt = 20 ∧ yG (rk_pt (rk_pt h 338 ((((20 : Int32) * f) + (gi h 337 f.toNatClampNeg)).toNatClampNeg) (.int v)) 337 f.toNatClampNeg (.int ((gi h 337 f.toNatClampNeg) + (1 : Int32)))) ∧ o = (none, rk_pt (rk_pt h 338 ((((20 : Int32) * f) + (gi h 337 f.toNatClampNeg)).toNatClampNeg) (.int v)) 337 f.toNatClampNeg (.int ((gi h 337 f.toNatClampNeg) + (1 : Int32))))) ∨
    ((gi h 337 f.toNatClampNeg).toInt = 20 ∧ yG (rk_pt h 316 39 (.int (2 : Int32))) ∧ o = (none, rk_pt h 316 39 (.int (2 : Int32)))) := by
  obtain ⟨m1, hm2, E, hG⟩ := E_go (pc' := 8) (lv' := [(0, .ref 316), (1, .int f), (2, .int v)]) (st' := [.int (20 : Int32), .int (gi h 337 f.toNatClampNeg)]) (h' := h) 5 rfl E hG
  rcases E_if2 (tg := 19) rfl rfl E with ⟨hc, m3, hm4, E⟩ | ⟨hc, m5, hm6, E⟩
  ·
    have c7 : ¬ (gi h 337 f.toNatClampNeg).toInt = 20 := hc
    clear hc
    obtain ⟨m8, hm9, E, hG⟩ := E_go (pc' := 46) (lv' := [(0, .ref 316), (1, .int f), (2, .int v)]) (st' := []) (h' := rk_pt (rk_pt h 338 ((((20 : Int32) * f) + (gi h 337 f.toNatClampNeg)).toNatClampNeg) (.int v)) 337 f.toNatClampNeg (.int ((gi (rk_pt h 338 ((((20 : Int32) * f) + (gi h 337 f.toNatClampNeg)).toNatClampNeg) (.int v)) 337 f.toNatClampNeg) + (1 : Int32)))) 20 rfl E hG
    try simp only [gi_x (a := 338) (a' := 337) (by decide)] at E hG
    have ho10 := E_retv rfl E
    exact Or.inl ⟨c7, hG, ho10⟩
  ·
    have c11 : (gi h 337 f.toNatClampNeg).toInt = 20 := Decidable.not_not.mp hc
    clear hc
    obtain ⟨m12, hm13, E, hG⟩ := E_go (pc' := 13) (lv' := [(0, .ref 316), (1, .int f), (2, .int v)]) (st' := [.int (2 : Int32), .ref 316]) (h' := h) 2 rfl E hG
    obtain ⟨m14, d15, o16, hm18, E17, F17⟩ := E_call (ar := ([.ref 316, .int (2 : Int32)], [])) rfl rfl rfl rfl rfl rfl E
    replace E17 : rk_ex m14 d15 rm_X8_refuse 0 [(0, .ref 316), (1, .int (2 : Int32))] [] h = some o16 := E17
    obtain ⟨m19, hm20, E17, hG⟩ := E_go (pc' := 5) (lv' := [(0, .ref 316), (1, .int (2 : Int32))]) (st' := []) (h' := rk_pt h 316 39 (.int (2 : Int32))) 3 rfl E17 hG
    have ho21 := E_retv rfl E17
    subst ho21
    have E : rk_ex m14 d rm_X8_put 16 [(0, .ref 316), (1, .int f), (2, .int v)] [] (rk_pt h 316 39 (.int (2 : Int32))) = some o := F17
    obtain ⟨m22, hm23, E, hG⟩ := E_go (pc' := 46) (lv' := [(0, .ref 316), (1, .int f), (2, .int v)]) (st' := []) (h' := rk_pt h 316 39 (.int (2 : Int32))) 1 rfl E hG
    have ho24 := E_retv rfl E
    exact Or.inr ⟨c11, hG, ho24⟩
set_option maxRecDepth 100000 in
set_option maxHeartbeats 4000000 in
theorem ym_arn {n d : Nat} {h : rk_S} {o : Option Value × rk_S} {x w : Int32} (hG : yG h) (E : rk_ex n d rm_X8_around 0 [(0, .ref 316), (1, .int x), (2, .int w)] [] h = some o) :
    ((gi h 316 24).toInt ≤ 0 ∧ yG h ∧ o = (none, h)) ∨
    (¬ ((gi h 316 24).toInt ≤ 0) ∧ (gi h 342 (((gi h 316 24) - (1 : Int32)).toNatClampNeg)).toInt ≤ (w + (1 : Int32)).toInt ∧ yG (rk_pt (rk_pt h 341 (((gi h 316 24) - (1 : Int32)).toNatClampNeg) (.int ((gi h 341 (((gi h 316 24) - (1 : Int32)).toNatClampNeg)) ||| x))) 342 (((gi h 316 24) - (1 : Int32)).toNatClampNeg) (.int (w + (1 : Int32)))) ∧ o = (none, rk_pt (rk_pt h 341 (((gi h 316 24) - (1 : Int32)).toNatClampNeg) (.int ((gi h 341 (((gi h 316 24) - (1 : Int32)).toNatClampNeg)) ||| x))) 342 (((gi h 316 24) - (1 : Int32)).toNatClampNeg) (.int (w + (1 : Int32))))) ∨
    (¬ ((gi h 316 24).toInt ≤ 0) ∧ ¬ ((gi h 342 (((gi h 316 24) - (1 : Int32)).toNatClampNeg)).toInt ≤ (w + (1 : Int32)).toInt) ∧ yG (rk_pt (rk_pt h 341 (((gi h 316 24) - (1 : Int32)).toNatClampNeg) (.int ((gi h 341 (((gi h 316 24) - (1 : Int32)).toNatClampNeg)) ||| x))) 342 (((gi h 316 24) - (1 : Int32)).toNatClampNeg) (.int (gi h 342 (((gi h 316 24) - (1 : Int32)).toNatClampNeg)))) ∧ o = (none, rk_pt (rk_pt h 341 (((gi h 316 24) - (1 : Int32)).toNatClampNeg) (.int ((gi h 341 (((gi h 316 24) - (1 : Int32)).toNatClampNeg)) ||| x))) 342 (((gi h 316 24) - (1 : Int32)).toNatClampNeg) (.int (gi h 342 (((gi h 316 24) - (1 : Int32)).toNatClampNeg))))) := by
  obtain ⟨m1, hm2, E, hG⟩ := E_go (pc' := 4) (lv' := [(0, .ref 316), (1, .int x), (2, .int w)]) (st' := [.int (gi h 316 24)]) (h' := h) 2 rfl E hG
  rcases E_if1 (tg := 67) rfl rfl E with ⟨hc, m3, hm4, E⟩ | ⟨hc, m5, hm6, E⟩
  ·
    have c7 : (gi h 316 24).toInt ≤ 0 := hc
    clear hc
    have ho8 := E_retv rfl E
    exact Or.inl ⟨c7, hG, ho8⟩
  ·
    have c9 : ¬ ((gi h 316 24).toInt ≤ 0) := hc
    clear hc
    obtain ⟨m10, hm11, E, hG⟩ := E_go (pc' := 46) (lv' := [(0, .ref 316), (1, .int x), (2, .int w)]) (st' := [.int (w + (1 : Int32)), .int (gi (rk_pt h 341 (((gi h 316 24) - (1 : Int32)).toNatClampNeg) (.int ((gi h 341 (((gi h 316 24) - (1 : Int32)).toNatClampNeg)) ||| x))) 342 (((gi (rk_pt h 341 (((gi h 316 24) - (1 : Int32)).toNatClampNeg) (.int ((gi h 341 (((gi h 316 24) - (1 : Int32)).toNatClampNeg)) ||| x))) 316 24) - (1 : Int32)).toNatClampNeg)), .int ((gi (rk_pt h 341 (((gi h 316 24) - (1 : Int32)).toNatClampNeg) (.int ((gi h 341 (((gi h 316 24) - (1 : Int32)).toNatClampNeg)) ||| x))) 316 24) - (1 : Int32)), .ref 342]) (h' := rk_pt h 341 (((gi h 316 24) - (1 : Int32)).toNatClampNeg) (.int ((gi h 341 (((gi h 316 24) - (1 : Int32)).toNatClampNeg)) ||| x))) 27 rfl E hG
    try simp only [gi_x (a := 341) (a' := 316) (by decide), gi_x (a := 341) (a' := 342) (by decide)] at E hG
    rcases E_if2 (tg := 63) rfl rfl E with ⟨hc, m12, hm13, E⟩ | ⟨hc, m14, hm15, E⟩
    ·
      have c16 : (gi h 342 (((gi h 316 24) - (1 : Int32)).toNatClampNeg)).toInt ≤ (w + (1 : Int32)).toInt := hc
      clear hc
      obtain ⟨m17, hm18, E, hG⟩ := E_go (pc' := 67) (lv' := [(0, .ref 316), (1, .int x), (2, .int w)]) (st' := []) (h' := rk_pt (rk_pt h 341 (((gi h 316 24) - (1 : Int32)).toNatClampNeg) (.int ((gi h 341 (((gi h 316 24) - (1 : Int32)).toNatClampNeg)) ||| x))) 342 (((gi h 316 24) - (1 : Int32)).toNatClampNeg) (.int (w + (1 : Int32)))) 4 rfl E hG
      have ho19 := E_retv rfl E
      exact Or.inr (Or.inl ⟨c9, c16, hG, ho19⟩)
    ·
      have c20 : ¬ ((gi h 342 (((gi h 316 24) - (1 : Int32)).toNatClampNeg)).toInt ≤ (w + (1 : Int32)).toInt) := hc
      clear hc
      obtain ⟨m21, hm22, E, hG⟩ := E_go (pc' := 67) (lv' := [(0, .ref 316), (1, .int x), (2, .int w)]) (st' := []) (h' := rk_pt (rk_pt h 341 (((gi h 316 24) - (1 : Int32)).toNatClampNeg) (.int ((gi h 341 (((gi h 316 24) - (1 : Int32)).toNatClampNeg)) ||| x))) 342 (((gi h 316 24) - (1 : Int32)).toNatClampNeg) (.int (gi (rk_pt h 341 (((gi h 316 24) - (1 : Int32)).toNatClampNeg) (.int ((gi h 341 (((gi h 316 24) - (1 : Int32)).toNatClampNeg)) ||| x))) 342 (((gi (rk_pt h 341 (((gi h 316 24) - (1 : Int32)).toNatClampNeg) (.int ((gi h 341 (((gi h 316 24) - (1 : Int32)).toNatClampNeg)) ||| x))) 316 24) - (1 : Int32)).toNatClampNeg)))) 9 rfl E hG
      try simp only [gi_x (a := 341) (a' := 316) (by decide), gi_x (a := 341) (a' := 342) (by decide)] at E hG
      have ho23 := E_retv rfl E
      exact Or.inr (Or.inr ⟨c9, c20, hG, ho23⟩)
set_option maxRecDepth 100000 in
set_option maxHeartbeats 4000000 in
theorem ym_com {n d : Nat} {h : rk_S} {o : Option Value × rk_S} (hG : yG h) (E : rk_ex n d rm_X8_comes 0 [(0, .ref 316)] [] h = some o) :
    ((gi h 316 24).toInt ≤ 0 ∧ yG h ∧ o = (none, h)) ∨
    (¬ ((gi h 316 24).toInt ≤ 0) ∧ yG (rk_pt (rk_pt h 338 ((((20 : Int32) * ((gi h 316 24) - (1 : Int32))) + (gi h 337 (((gi h 316 24) - (1 : Int32)).toNatClampNeg))).toNatClampNeg) (.int (gi h 316 41))) 337 (((gi h 316 24) - (1 : Int32)).toNatClampNeg) (.int ((gi h 337 (((gi h 316 24) - (1 : Int32)).toNatClampNeg)) + (1 : Int32)))) ∧ o = (none, rk_pt (rk_pt h 338 ((((20 : Int32) * ((gi h 316 24) - (1 : Int32))) + (gi h 337 (((gi h 316 24) - (1 : Int32)).toNatClampNeg))).toNatClampNeg) (.int (gi h 316 41))) 337 (((gi h 316 24) - (1 : Int32)).toNatClampNeg) (.int ((gi h 337 (((gi h 316 24) - (1 : Int32)).toNatClampNeg)) + (1 : Int32))))) := by
  obtain ⟨m1, hm2, E, hG⟩ := E_go (pc' := 4) (lv' := [(0, .ref 316)]) (st' := [.int (gi h 316 24)]) (h' := h) 2 rfl E hG
  rcases E_if1 (tg := 44) rfl rfl E with ⟨hc, m3, hm4, E⟩ | ⟨hc, m5, hm6, E⟩
  ·
    have c7 : (gi h 316 24).toInt ≤ 0 := hc
    clear hc
    have ho8 := E_retv rfl E
    exact Or.inl ⟨c7, hG, ho8⟩
  ·
    have c9 : ¬ ((gi h 316 24).toInt ≤ 0) := hc
    clear hc
    obtain ⟨m10, hm11, E, hG⟩ := E_go (pc' := 44) (lv' := [(1, .int ((gi h 316 24) - (1 : Int32))), (0, .ref 316)]) (st' := []) (h' := rk_pt (rk_pt h 338 ((((20 : Int32) * ((gi h 316 24) - (1 : Int32))) + (gi h 337 (((gi h 316 24) - (1 : Int32)).toNatClampNeg))).toNatClampNeg) (.int (gi h 316 41))) 337 (((gi h 316 24) - (1 : Int32)).toNatClampNeg) (.int ((gi (rk_pt h 338 ((((20 : Int32) * ((gi h 316 24) - (1 : Int32))) + (gi h 337 (((gi h 316 24) - (1 : Int32)).toNatClampNeg))).toNatClampNeg) (.int (gi h 316 41))) 337 (((gi h 316 24) - (1 : Int32)).toNatClampNeg)) + (1 : Int32)))) 26 rfl E hG
    try simp only [gi_x (a := 338) (a' := 337) (by decide)] at E hG
    have ho12 := E_retv rfl E
    exact Or.inr ⟨c9, hG, ho12⟩
set_option maxRecDepth 100000 in
set_option maxHeartbeats 4000000 in
theorem ym_lv {n d : Nat} {h : rk_S} {o : Option Value × rk_S} (hG : yG h) (E : rk_ex n d rm_X8_leave 0 [(0, .ref 316)] [] h = some o) :
    (¬ (gi h 316 39).toInt = 0 ∧ ∃ m, m < n ∧ yG (rk_pt h 316 41 (.int (0 : Int32))) ∧ rk_ex m d rm_X8_leave 49 [(1, .int ((gi h 316 24) - (1 : Int32))), (0, .ref 316)] [] (rk_pt h 316 41 (.int (0 : Int32))) = some o) ∨
    ((gi h 316 39).toInt = 0 ∧ (gi h 337 (((gi h 316 24) - (1 : Int32)).toNatClampNeg)).toInt ≤ 0 ∧ ∃ m, m < n ∧ yG (rk_pt h 316 41 (.int (0 : Int32))) ∧ rk_ex m d rm_X8_leave 49 [(1, .int ((gi h 316 24) - (1 : Int32))), (0, .ref 316)] [] (rk_pt h 316 41 (.int (0 : Int32))) = some o) ∨
    ((gi h 316 39).toInt = 0 ∧ ¬ ((gi h 337 (((gi h 316 24) - (1 : Int32)).toNatClampNeg)).toInt ≤ 0) ∧ ∃ m, m < n ∧ yG (rk_pt h 316 41 (.int (gi h 338 (((((20 : Int32) * ((gi h 316 24) - (1 : Int32))) + (gi h 337 (((gi h 316 24) - (1 : Int32)).toNatClampNeg))) - (1 : Int32)).toNatClampNeg)))) ∧ rk_ex m d rm_X8_leave 49 [(1, .int ((gi h 316 24) - (1 : Int32))), (0, .ref 316)] [] (rk_pt h 316 41 (.int (gi h 338 (((((20 : Int32) * ((gi h 316 24) - (1 : Int32))) + (gi h 337 (((gi h 316 24) - (1 : Int32)).toNatClampNeg))) - (1 : Int32)).toNatClampNeg)))) = some o) := by
  obtain ⟨m1, hm2, E, hG⟩ := E_go (pc' := 12) (lv' := [(1, .int ((gi h 316 24) - (1 : Int32))), (0, .ref 316)]) (st' := [.int (gi h 316 39), .ref 316]) (h' := h) 8 rfl E hG
  rcases E_if1 (tg := 45) rfl rfl E with ⟨hc, m3, hm4, E⟩ | ⟨hc, m5, hm6, E⟩
  ·
    have c7 : ¬ (gi h 316 39).toInt = 0 := hc
    clear hc
    obtain ⟨m8, hm9, E, hG⟩ := E_go (pc' := 49) (lv' := [(1, .int ((gi h 316 24) - (1 : Int32))), (0, .ref 316)]) (st' := []) (h' := rk_pt h 316 41 (.int (0 : Int32))) 2 rfl E hG
    exact Or.inl ⟨c7, _, (by omega), hG, E⟩
  ·
    have c11 : (gi h 316 39).toInt = 0 := Decidable.not_not.mp hc
    clear hc
    obtain ⟨m12, hm13, E, hG⟩ := E_go (pc' := 21) (lv' := [(1, .int ((gi h 316 24) - (1 : Int32))), (0, .ref 316)]) (st' := [.int (gi h 337 (((gi h 316 24) - (1 : Int32)).toNatClampNeg)), .ref 316]) (h' := h) 4 rfl E hG
    rcases E_if1 (tg := 45) rfl rfl E with ⟨hc, m14, hm15, E⟩ | ⟨hc, m16, hm17, E⟩
    ·
      have c18 : (gi h 337 (((gi h 316 24) - (1 : Int32)).toNatClampNeg)).toInt ≤ 0 := hc
      clear hc
      obtain ⟨m19, hm20, E, hG⟩ := E_go (pc' := 49) (lv' := [(1, .int ((gi h 316 24) - (1 : Int32))), (0, .ref 316)]) (st' := []) (h' := rk_pt h 316 41 (.int (0 : Int32))) 2 rfl E hG
      exact Or.inr (Or.inl ⟨c11, c18, _, (by omega), hG, E⟩)
    ·
      have c22 : ¬ ((gi h 337 (((gi h 316 24) - (1 : Int32)).toNatClampNeg)).toInt ≤ 0) := hc
      clear hc
      obtain ⟨m23, hm24, E, hG⟩ := E_go (pc' := 49) (lv' := [(1, .int ((gi h 316 24) - (1 : Int32))), (0, .ref 316)]) (st' := []) (h' := rk_pt h 316 41 (.int (gi h 338 (((((20 : Int32) * ((gi h 316 24) - (1 : Int32))) + (gi h 337 (((gi h 316 24) - (1 : Int32)).toNatClampNeg))) - (1 : Int32)).toNatClampNeg)))) 15 rfl E hG
      exact Or.inr (Or.inr ⟨c11, c22, _, (by omega), hG, E⟩)
set_option maxRecDepth 100000 in
set_option maxHeartbeats 4000000 in
theorem ym_lv0 {n d : Nat} {h : rk_S} {o : Option Value × rk_S} {f : Int32} (hG : yG h) (E : rk_ex n d rm_X8_leave 49 [(1, .int f), (0, .ref 316)] [] h = some o) :
    (¬ (((gi h 316 22) >>> ((gi h 334 f.toNatClampNeg) &&& 31)) &&& (1 : Int32)).toInt = 1 ∧ ∃ m, m < n ∧ yG h ∧ rk_ex m d rm_X8_leave 84 [(1, .int f), (0, .ref 316)] [] h = some o) ∨
    ((((gi h 316 22) >>> ((gi h 334 f.toNatClampNeg) &&& 31)) &&& (1 : Int32)).toInt = 1 ∧ (gi h 316 40).toInt = 0 ∧ ∃ m, m < n ∧ yG h ∧ rk_ex m d rm_X8_leave 84 [(1, .int f), (0, .ref 316)] [] h = some o) ∨
    ((((gi h 316 22) >>> ((gi h 334 f.toNatClampNeg) &&& 31)) &&& (1 : Int32)).toInt = 1 ∧ ¬ ((gi h 316 40).toInt = 0) ∧ (gi h 316 23).toInt ≤ 0 ∧ ∃ m, m < n ∧ yG h ∧ rk_ex m d rm_X8_leave 84 [(1, .int f), (0, .ref 316)] [] h = some o) ∨
    ((((gi h 316 22) >>> ((gi h 334 f.toNatClampNeg) &&& 31)) &&& (1 : Int32)).toInt = 1 ∧ ¬ ((gi h 316 40).toInt = 0) ∧ ¬ ((gi h 316 23).toInt ≤ 0) ∧ ∃ m, m < n + 1 ∧ yG h ∧ rk_ex m d rm_X8_leave 81 [(1, .int f), (0, .ref 316)] [.ref 316] h = some o) := by
  obtain ⟨m1, hm2, E, hG⟩ := E_go (pc' := 63) (lv' := [(1, .int f), (0, .ref 316)]) (st' := [.int (1 : Int32), .int (((gi h 316 22) >>> ((gi h 334 f.toNatClampNeg) &&& 31)) &&& (1 : Int32))]) (h' := h) 10 rfl E hG
  rcases E_if2 (tg := 84) rfl rfl E with ⟨hc, m3, hm4, E⟩ | ⟨hc, m5, hm6, E⟩
  ·
    have c7 : ¬ (((gi h 316 22) >>> ((gi h 334 f.toNatClampNeg) &&& 31)) &&& (1 : Int32)).toInt = 1 := hc
    clear hc
    exact Or.inl ⟨c7, _, (by omega), hG, E⟩
  ·
    have c9 : (((gi h 316 22) >>> ((gi h 334 f.toNatClampNeg) &&& 31)) &&& (1 : Int32)).toInt = 1 := Decidable.not_not.mp hc
    clear hc
    obtain ⟨m10, hm11, E, hG⟩ := E_go (pc' := 70) (lv' := [(1, .int f), (0, .ref 316)]) (st' := [.int (gi h 316 40)]) (h' := h) 2 rfl E hG
    rcases E_if1 (tg := 84) rfl rfl E with ⟨hc, m12, hm13, E⟩ | ⟨hc, m14, hm15, E⟩
    ·
      have c16 : (gi h 316 40).toInt = 0 := hc
      clear hc
      exact Or.inr (Or.inl ⟨c9, c16, _, (by omega), hG, E⟩)
    ·
      have c18 : ¬ ((gi h 316 40).toInt = 0) := hc
      clear hc
      obtain ⟨m19, hm20, E, hG⟩ := E_go (pc' := 77) (lv' := [(1, .int f), (0, .ref 316)]) (st' := [.int (gi h 316 23)]) (h' := h) 2 rfl E hG
      rcases E_if1 (tg := 84) rfl rfl E with ⟨hc, m21, hm22, E⟩ | ⟨hc, m23, hm24, E⟩
      ·
        have c25 : (gi h 316 23).toInt ≤ 0 := hc
        clear hc
        exact Or.inr (Or.inr (Or.inl ⟨c9, c18, c25, _, (by omega), hG, E⟩))
      ·
        have c27 : ¬ ((gi h 316 23).toInt ≤ 0) := hc
        clear hc
        obtain ⟨m28, hm29, E, hG⟩ := E_go (pc' := 81) (lv' := [(1, .int f), (0, .ref 316)]) (st' := [.ref 316]) (h' := h) 1 rfl E hG
        exact Or.inr (Or.inr (Or.inr ⟨c9, c18, c27, _, (by omega), hG, E⟩))
set_option maxRecDepth 100000 in
set_option maxHeartbeats 4000000 in
theorem ym_lv1 {n d : Nat} {h : rk_S} {o : Option Value × rk_S} {f : Int32} (hG : yG h) (E : rk_ex n d rm_X8_leave 84 [(1, .int f), (0, .ref 316)] [] h = some o) :
    (∃ m, m < n + 1 ∧ yG (rk_pt h 316 24 (.int ((gi h 316 24) - (1 : Int32)))) ∧ rk_ex m d rm_X8_leave 107 [(1, .int f), (0, .ref 316)] [.int (gi h 342 f.toNatClampNeg), .int (gi h 341 f.toNatClampNeg), .ref 316] (rk_pt h 316 24 (.int ((gi h 316 24) - (1 : Int32)))) = some o) := by
  obtain ⟨m1, hm2, E, hG⟩ := E_go (pc' := 107) (lv' := [(1, .int f), (0, .ref 316)]) (st' := [.int (gi (rk_pt h 316 24 (.int ((gi h 316 24) - (1 : Int32)))) 342 f.toNatClampNeg), .int (gi (rk_pt h 316 24 (.int ((gi h 316 24) - (1 : Int32)))) 341 f.toNatClampNeg), .ref 316]) (h' := rk_pt h 316 24 (.int ((gi h 316 24) - (1 : Int32)))) 15 rfl E hG
  try simp only [gi_x (a := 316) (a' := 341) (by decide), gi_x (a := 316) (a' := 342) (by decide)] at E hG
  exact ⟨_, (by omega), hG, E⟩
set_option maxRecDepth 100000 in
set_option maxHeartbeats 4000000 in
theorem ym_lv2 {n d : Nat} {h : rk_S} {o : Option Value × rk_S} {f : Int32} (hG : yG h) (E : rk_ex n d rm_X8_leave 110 [(1, .int f), (0, .ref 316)] [] h = some o) :
    (¬ (gi h 316 39).toInt = 0 ∧ yG h ∧ o = (none, h)) ∨
    ((gi h 316 39).toInt = 0 ∧ ∃ m, m < n + 1 ∧ yG h ∧ rk_ex m d rm_X8_leave 118 [(1, .int f), (0, .ref 316)] [.ref 316] h = some o) := by
  obtain ⟨m1, hm2, E, hG⟩ := E_go (pc' := 114) (lv' := [(1, .int f), (0, .ref 316)]) (st' := [.int (gi h 316 39)]) (h' := h) 2 rfl E hG
  rcases E_if1 (tg := 121) rfl rfl E with ⟨hc, m3, hm4, E⟩ | ⟨hc, m5, hm6, E⟩
  ·
    have c7 : ¬ (gi h 316 39).toInt = 0 := hc
    clear hc
    have ho8 := E_retv rfl E
    exact Or.inl ⟨c7, hG, ho8⟩
  ·
    have c9 : (gi h 316 39).toInt = 0 := Decidable.not_not.mp hc
    clear hc
    obtain ⟨m10, hm11, E, hG⟩ := E_go (pc' := 118) (lv' := [(1, .int f), (0, .ref 316)]) (st' := [.ref 316]) (h' := h) 1 rfl E hG
    exact Or.inr ⟨c9, _, (by omega), hG, E⟩
set_option maxRecDepth 100000 in
set_option maxHeartbeats 4000000 in
theorem ym_lv3 {n d : Nat} {h : rk_S} {o : Option Value × rk_S} {f : Int32} (hG : yG h) (E : rk_ex n d rm_X8_leave 121 [(1, .int f), (0, .ref 316)] [] h = some o) :
    (yG h ∧ o = (none, h)) := by
  have ho1 := E_retv rfl E
  exact ⟨hG, ho1⟩
set_option maxRecDepth 100000 in
set_option maxHeartbeats 4000000 in
theorem ym_en {n d : Nat} {h : rk_S} {o : Option Value × rk_S} {r a b c : Int32} (hG : yG h) (E : rk_ex n d rm_X8_enter 0 [(0, .ref 316), (1, .int r), (2, .int a), (3, .int b), (4, .int c)] [] h = some o) :
    ((gi h 316 38).toInt ≤ ((gi h 316 24) + (1 : Int32)).toInt ∧ ∃ m, m < n ∧ yG (rk_pt h 316 38 (.int ((gi h 316 24) + (1 : Int32)))) ∧ rk_ex m d rm_X8_enter 30 [(0, .ref 316), (1, .int r), (2, .int a), (3, .int b), (4, .int c)] [] (rk_pt h 316 38 (.int ((gi h 316 24) + (1 : Int32)))) = some o) ∨
    (¬ ((gi h 316 38).toInt ≤ ((gi h 316 24) + (1 : Int32)).toInt) ∧ ∃ m, m < n ∧ yG (rk_pt h 316 38 (.int (gi h 316 38))) ∧ rk_ex m d rm_X8_enter 30 [(0, .ref 316), (1, .int r), (2, .int a), (3, .int b), (4, .int c)] [] (rk_pt h 316 38 (.int (gi h 316 38))) = some o) := by
  obtain ⟨m1, hm2, E, hG⟩ := E_go (pc' := 11) (lv' := [(0, .ref 316), (1, .int r), (2, .int a), (3, .int b), (4, .int c)]) (st' := [.int ((gi h 316 24) + (1 : Int32)), .int (gi h 316 38), .ref 316]) (h' := h) 7 rfl E hG
  rcases E_if2 (tg := 21) rfl rfl E with ⟨hc, m3, hm4, E⟩ | ⟨hc, m5, hm6, E⟩
  ·
    have c7 : (gi h 316 38).toInt ≤ ((gi h 316 24) + (1 : Int32)).toInt := hc
    clear hc
    obtain ⟨m8, hm9, E, hG⟩ := E_go (pc' := 30) (lv' := [(0, .ref 316), (1, .int r), (2, .int a), (3, .int b), (4, .int c)]) (st' := []) (h' := rk_pt h 316 38 (.int ((gi h 316 24) + (1 : Int32)))) 5 rfl E hG
    exact Or.inl ⟨c7, _, (by omega), hG, E⟩
  ·
    have c11 : ¬ ((gi h 316 38).toInt ≤ ((gi h 316 24) + (1 : Int32)).toInt) := hc
    clear hc
    obtain ⟨m12, hm13, E, hG⟩ := E_go (pc' := 30) (lv' := [(0, .ref 316), (1, .int r), (2, .int a), (3, .int b), (4, .int c)]) (st' := []) (h' := rk_pt h 316 38 (.int (gi h 316 38))) 4 rfl E hG
    exact Or.inr ⟨c11, _, (by omega), hG, E⟩
set_option maxRecDepth 100000 in
set_option maxHeartbeats 4000000 in
theorem ym_en0 {n d : Nat} {h : rk_S} {o : Option Value × rk_S} {r a b c : Int32} (hG : yG h) (E : rk_ex n d rm_X8_enter 30 [(0, .ref 316), (1, .int r), (2, .int a), (3, .int b), (4, .int c)] [] h = some o) :
    (¬ (((gi h 316 22) >>> (r &&& 31)) &&& (1 : Int32)).toInt = 1 ∧ ∃ m, m < n ∧ yG h ∧ rk_ex m d rm_X8_enter 261 [(0, .ref 316), (1, .int r), (2, .int a), (3, .int b), (4, .int c)] [] h = some o) ∨
    ((((gi h 316 22) >>> (r &&& 31)) &&& (1 : Int32)).toInt = 1 ∧ ∃ m, m < n + 1 ∧ yG h ∧ rk_ex m d rm_X8_enter 48 [(0, .ref 316), (1, .int r), (2, .int a), (3, .int b), (4, .int c)] [.int c, .int b, .int a, .int r, .ref 316] h = some o) := by
  obtain ⟨m1, hm2, E, hG⟩ := E_go (pc' := 39) (lv' := [(0, .ref 316), (1, .int r), (2, .int a), (3, .int b), (4, .int c)]) (st' := [.int (1 : Int32), .int (((gi h 316 22) >>> (r &&& 31)) &&& (1 : Int32))]) (h' := h) 7 rfl E hG
  rcases E_if2 (tg := 261) rfl rfl E with ⟨hc, m3, hm4, E⟩ | ⟨hc, m5, hm6, E⟩
  ·
    have c7 : ¬ (((gi h 316 22) >>> (r &&& 31)) &&& (1 : Int32)).toInt = 1 := hc
    clear hc
    exact Or.inl ⟨c7, _, (by omega), hG, E⟩
  ·
    have c9 : (((gi h 316 22) >>> (r &&& 31)) &&& (1 : Int32)).toInt = 1 := Decidable.not_not.mp hc
    clear hc
    obtain ⟨m10, hm11, E, hG⟩ := E_go (pc' := 48) (lv' := [(0, .ref 316), (1, .int r), (2, .int a), (3, .int b), (4, .int c)]) (st' := [.int c, .int b, .int a, .int r, .ref 316]) (h' := h) 5 rfl E hG
    exact Or.inr ⟨c9, _, (by omega), hG, E⟩
set_option maxRecDepth 100000 in
set_option maxHeartbeats 4000000 in
theorem ym_en1 {n d : Nat} {h : rk_S} {o : Option Value × rk_S} {r a b c y : Int32} (hG : yG h) (E : rk_ex n d rm_X8_enter 51 [(0, .ref 316), (1, .int r), (2, .int a), (3, .int b), (4, .int c)] [.int y] h = some o) :
    (y.toInt < 0 ∧ ∃ m, m < n ∧ yG h ∧ rk_ex m d rm_X8_enter 251 [(5, .int y), (0, .ref 316), (1, .int r), (2, .int a), (3, .int b), (4, .int c)] [] h = some o) ∨
    (¬ (y.toInt < 0) ∧ 2000 < ((gi h 316 34) + (gi h 330 y.toNatClampNeg)).toInt ∧ ∃ m, m < n ∧ yG h ∧ rk_ex m d rm_X8_enter 251 [(5, .int y), (0, .ref 316), (1, .int r), (2, .int a), (3, .int b), (4, .int c)] [] h = some o) ∨
    (¬ (y.toInt < 0) ∧ ¬ (2000 < ((gi h 316 34) + (gi h 330 y.toNatClampNeg)).toInt) ∧ 12 < (((gi h 316 24) + (1 : Int32)) + (gi h 331 y.toNatClampNeg)).toInt ∧ ∃ m, m < n ∧ yG h ∧ rk_ex m d rm_X8_enter 251 [(5, .int y), (0, .ref 316), (1, .int r), (2, .int a), (3, .int b), (4, .int c)] [] h = some o) ∨
    (¬ (y.toInt < 0) ∧ ¬ (2000 < ((gi h 316 34) + (gi h 330 y.toNatClampNeg)).toInt) ∧ ¬ (12 < (((gi h 316 24) + (1 : Int32)) + (gi h 331 y.toNatClampNeg)).toInt) ∧ (gi h 316 38).toInt ≤ (((gi h 316 24) + (1 : Int32)) + (gi h 331 y.toNatClampNeg)).toInt ∧ ∃ m, m < n + 1 ∧ yG (rk_pt (rk_pt (rk_pt (rk_pt (rk_pt (rk_pt h 316 36 (.int ((gi h 316 36) + (1 : Int32)))) 332 y.toNatClampNeg (.int ((gi h 332 y.toNatClampNeg) + (1 : Int32)))) 333 y.toNatClampNeg (.int (gi h 316 20))) 316 20 (.int ((gi h 316 20) + (1 : Int32)))) 316 34 (.int ((gi h 316 34) + (gi h 330 y.toNatClampNeg)))) 316 38 (.int (((gi h 316 24) + (1 : Int32)) + (gi h 331 y.toNatClampNeg)))) ∧ rk_ex m d rm_X8_enter 214 [(5, .int y), (0, .ref 316), (1, .int r), (2, .int a), (3, .int b), (4, .int c)] [.int (gi h 331 y.toNatClampNeg), .int (gi h 326 y.toNatClampNeg), .ref 316] (rk_pt (rk_pt (rk_pt (rk_pt (rk_pt (rk_pt h 316 36 (.int ((gi h 316 36) + (1 : Int32)))) 332 y.toNatClampNeg (.int ((gi h 332 y.toNatClampNeg) + (1 : Int32)))) 333 y.toNatClampNeg (.int (gi h 316 20))) 316 20 (.int ((gi h 316 20) + (1 : Int32)))) 316 34 (.int ((gi h 316 34) + (gi h 330 y.toNatClampNeg)))) 316 38 (.int (((gi h 316 24) + (1 : Int32)) + (gi h 331 y.toNatClampNeg)))) = some o) ∨
    (¬ (y.toInt < 0) ∧ ¬ (2000 < ((gi h 316 34) + (gi h 330 y.toNatClampNeg)).toInt) ∧ ¬ (12 < (((gi h 316 24) + (1 : Int32)) + (gi h 331 y.toNatClampNeg)).toInt) ∧ ¬ ((gi h 316 38).toInt ≤ (((gi h 316 24) + (1 : Int32)) + (gi h 331 y.toNatClampNeg)).toInt) ∧ ∃ m, m < n + 1 ∧ yG (rk_pt (rk_pt (rk_pt (rk_pt (rk_pt (rk_pt h 316 36 (.int ((gi h 316 36) + (1 : Int32)))) 332 y.toNatClampNeg (.int ((gi h 332 y.toNatClampNeg) + (1 : Int32)))) 333 y.toNatClampNeg (.int (gi h 316 20))) 316 20 (.int ((gi h 316 20) + (1 : Int32)))) 316 34 (.int ((gi h 316 34) + (gi h 330 y.toNatClampNeg)))) 316 38 (.int (gi h 316 38))) ∧ rk_ex m d rm_X8_enter 214 [(5, .int y), (0, .ref 316), (1, .int r), (2, .int a), (3, .int b), (4, .int c)] [.int (gi h 331 y.toNatClampNeg), .int (gi h 326 y.toNatClampNeg), .ref 316] (rk_pt (rk_pt (rk_pt (rk_pt (rk_pt (rk_pt h 316 36 (.int ((gi h 316 36) + (1 : Int32)))) 332 y.toNatClampNeg (.int ((gi h 332 y.toNatClampNeg) + (1 : Int32)))) 333 y.toNatClampNeg (.int (gi h 316 20))) 316 20 (.int ((gi h 316 20) + (1 : Int32)))) 316 34 (.int ((gi h 316 34) + (gi h 330 y.toNatClampNeg)))) 316 38 (.int (gi h 316 38))) = some o) := by
  obtain ⟨m1, hm2, E, hG⟩ := E_go (pc' := 55) (lv' := [(5, .int y), (0, .ref 316), (1, .int r), (2, .int a), (3, .int b), (4, .int c)]) (st' := [.int y]) (h' := h) 2 rfl E hG
  rcases E_if1 (tg := 251) rfl rfl E with ⟨hc, m3, hm4, E⟩ | ⟨hc, m5, hm6, E⟩
  ·
    have c7 : y.toInt < 0 := hc
    clear hc
    exact Or.inl ⟨c7, _, (by omega), hG, E⟩
  ·
    have c9 : ¬ (y.toInt < 0) := hc
    clear hc
    obtain ⟨m10, hm11, E, hG⟩ := E_go (pc' := 73) (lv' := [(5, .int y), (0, .ref 316), (1, .int r), (2, .int a), (3, .int b), (4, .int c)]) (st' := [.int (2000 : Int32), .int ((gi h 316 34) + (gi h 330 y.toNatClampNeg))]) (h' := h) 8 rfl E hG
    rcases E_if2 (tg := 251) rfl rfl E with ⟨hc, m12, hm13, E⟩ | ⟨hc, m14, hm15, E⟩
    ·
      have c16 : 2000 < ((gi h 316 34) + (gi h 330 y.toNatClampNeg)).toInt := hc
      clear hc
      exact Or.inr (Or.inl ⟨c9, c16, _, (by omega), hG, E⟩)
    ·
      have c18 : ¬ (2000 < ((gi h 316 34) + (gi h 330 y.toNatClampNeg)).toInt) := hc
      clear hc
      obtain ⟨m19, hm20, E, hG⟩ := E_go (pc' := 92) (lv' := [(5, .int y), (0, .ref 316), (1, .int r), (2, .int a), (3, .int b), (4, .int c)]) (st' := [.int (12 : Int32), .int (((gi h 316 24) + (1 : Int32)) + (gi h 331 y.toNatClampNeg))]) (h' := h) 10 rfl E hG
      rcases E_if2 (tg := 251) rfl rfl E with ⟨hc, m21, hm22, E⟩ | ⟨hc, m23, hm24, E⟩
      ·
        have c25 : 12 < (((gi h 316 24) + (1 : Int32)) + (gi h 331 y.toNatClampNeg)).toInt := hc
        clear hc
        exact Or.inr (Or.inr (Or.inl ⟨c9, c18, c25, _, (by omega), hG, E⟩))
      ·
        have c27 : ¬ (12 < (((gi h 316 24) + (1 : Int32)) + (gi h 331 y.toNatClampNeg)).toInt) := hc
        clear hc
        obtain ⟨m28, hm29, E, hG⟩ := E_go (pc' := 172) (lv' := [(5, .int y), (0, .ref 316), (1, .int r), (2, .int a), (3, .int b), (4, .int c)]) (st' := [.int (((gi (rk_pt (rk_pt (rk_pt (rk_pt (rk_pt h 316 36 (.int ((gi h 316 36) + (1 : Int32)))) 332 y.toNatClampNeg (.int ((gi (rk_pt h 316 36 (.int ((gi h 316 36) + (1 : Int32)))) 332 y.toNatClampNeg) + (1 : Int32)))) 333 y.toNatClampNeg (.int (gi (rk_pt (rk_pt h 316 36 (.int ((gi h 316 36) + (1 : Int32)))) 332 y.toNatClampNeg (.int ((gi (rk_pt h 316 36 (.int ((gi h 316 36) + (1 : Int32)))) 332 y.toNatClampNeg) + (1 : Int32)))) 316 20))) 316 20 (.int ((gi (rk_pt (rk_pt (rk_pt h 316 36 (.int ((gi h 316 36) + (1 : Int32)))) 332 y.toNatClampNeg (.int ((gi (rk_pt h 316 36 (.int ((gi h 316 36) + (1 : Int32)))) 332 y.toNatClampNeg) + (1 : Int32)))) 333 y.toNatClampNeg (.int (gi (rk_pt (rk_pt h 316 36 (.int ((gi h 316 36) + (1 : Int32)))) 332 y.toNatClampNeg (.int ((gi (rk_pt h 316 36 (.int ((gi h 316 36) + (1 : Int32)))) 332 y.toNatClampNeg) + (1 : Int32)))) 316 20))) 316 20) + (1 : Int32)))) 316 34 (.int ((gi (rk_pt (rk_pt (rk_pt (rk_pt h 316 36 (.int ((gi h 316 36) + (1 : Int32)))) 332 y.toNatClampNeg (.int ((gi (rk_pt h 316 36 (.int ((gi h 316 36) + (1 : Int32)))) 332 y.toNatClampNeg) + (1 : Int32)))) 333 y.toNatClampNeg (.int (gi (rk_pt (rk_pt h 316 36 (.int ((gi h 316 36) + (1 : Int32)))) 332 y.toNatClampNeg (.int ((gi (rk_pt h 316 36 (.int ((gi h 316 36) + (1 : Int32)))) 332 y.toNatClampNeg) + (1 : Int32)))) 316 20))) 316 20 (.int ((gi (rk_pt (rk_pt (rk_pt h 316 36 (.int ((gi h 316 36) + (1 : Int32)))) 332 y.toNatClampNeg (.int ((gi (rk_pt h 316 36 (.int ((gi h 316 36) + (1 : Int32)))) 332 y.toNatClampNeg) + (1 : Int32)))) 333 y.toNatClampNeg (.int (gi (rk_pt (rk_pt h 316 36 (.int ((gi h 316 36) + (1 : Int32)))) 332 y.toNatClampNeg (.int ((gi (rk_pt h 316 36 (.int ((gi h 316 36) + (1 : Int32)))) 332 y.toNatClampNeg) + (1 : Int32)))) 316 20))) 316 20) + (1 : Int32)))) 316 34) + (gi (rk_pt (rk_pt (rk_pt (rk_pt h 316 36 (.int ((gi h 316 36) + (1 : Int32)))) 332 y.toNatClampNeg (.int ((gi (rk_pt h 316 36 (.int ((gi h 316 36) + (1 : Int32)))) 332 y.toNatClampNeg) + (1 : Int32)))) 333 y.toNatClampNeg (.int (gi (rk_pt (rk_pt h 316 36 (.int ((gi h 316 36) + (1 : Int32)))) 332 y.toNatClampNeg (.int ((gi (rk_pt h 316 36 (.int ((gi h 316 36) + (1 : Int32)))) 332 y.toNatClampNeg) + (1 : Int32)))) 316 20))) 316 20 (.int ((gi (rk_pt (rk_pt (rk_pt h 316 36 (.int ((gi h 316 36) + (1 : Int32)))) 332 y.toNatClampNeg (.int ((gi (rk_pt h 316 36 (.int ((gi h 316 36) + (1 : Int32)))) 332 y.toNatClampNeg) + (1 : Int32)))) 333 y.toNatClampNeg (.int (gi (rk_pt (rk_pt h 316 36 (.int ((gi h 316 36) + (1 : Int32)))) 332 y.toNatClampNeg (.int ((gi (rk_pt h 316 36 (.int ((gi h 316 36) + (1 : Int32)))) 332 y.toNatClampNeg) + (1 : Int32)))) 316 20))) 316 20) + (1 : Int32)))) 330 y.toNatClampNeg)))) 316 24) + (1 : Int32)) + (gi (rk_pt (rk_pt (rk_pt (rk_pt (rk_pt h 316 36 (.int ((gi h 316 36) + (1 : Int32)))) 332 y.toNatClampNeg (.int ((gi (rk_pt h 316 36 (.int ((gi h 316 36) + (1 : Int32)))) 332 y.toNatClampNeg) + (1 : Int32)))) 333 y.toNatClampNeg (.int (gi (rk_pt (rk_pt h 316 36 (.int ((gi h 316 36) + (1 : Int32)))) 332 y.toNatClampNeg (.int ((gi (rk_pt h 316 36 (.int ((gi h 316 36) + (1 : Int32)))) 332 y.toNatClampNeg) + (1 : Int32)))) 316 20))) 316 20 (.int ((gi (rk_pt (rk_pt (rk_pt h 316 36 (.int ((gi h 316 36) + (1 : Int32)))) 332 y.toNatClampNeg (.int ((gi (rk_pt h 316 36 (.int ((gi h 316 36) + (1 : Int32)))) 332 y.toNatClampNeg) + (1 : Int32)))) 333 y.toNatClampNeg (.int (gi (rk_pt (rk_pt h 316 36 (.int ((gi h 316 36) + (1 : Int32)))) 332 y.toNatClampNeg (.int ((gi (rk_pt h 316 36 (.int ((gi h 316 36) + (1 : Int32)))) 332 y.toNatClampNeg) + (1 : Int32)))) 316 20))) 316 20) + (1 : Int32)))) 316 34 (.int ((gi (rk_pt (rk_pt (rk_pt (rk_pt h 316 36 (.int ((gi h 316 36) + (1 : Int32)))) 332 y.toNatClampNeg (.int ((gi (rk_pt h 316 36 (.int ((gi h 316 36) + (1 : Int32)))) 332 y.toNatClampNeg) + (1 : Int32)))) 333 y.toNatClampNeg (.int (gi (rk_pt (rk_pt h 316 36 (.int ((gi h 316 36) + (1 : Int32)))) 332 y.toNatClampNeg (.int ((gi (rk_pt h 316 36 (.int ((gi h 316 36) + (1 : Int32)))) 332 y.toNatClampNeg) + (1 : Int32)))) 316 20))) 316 20 (.int ((gi (rk_pt (rk_pt (rk_pt h 316 36 (.int ((gi h 316 36) + (1 : Int32)))) 332 y.toNatClampNeg (.int ((gi (rk_pt h 316 36 (.int ((gi h 316 36) + (1 : Int32)))) 332 y.toNatClampNeg) + (1 : Int32)))) 333 y.toNatClampNeg (.int (gi (rk_pt (rk_pt h 316 36 (.int ((gi h 316 36) + (1 : Int32)))) 332 y.toNatClampNeg (.int ((gi (rk_pt h 316 36 (.int ((gi h 316 36) + (1 : Int32)))) 332 y.toNatClampNeg) + (1 : Int32)))) 316 20))) 316 20) + (1 : Int32)))) 316 34) + (gi (rk_pt (rk_pt (rk_pt (rk_pt h 316 36 (.int ((gi h 316 36) + (1 : Int32)))) 332 y.toNatClampNeg (.int ((gi (rk_pt h 316 36 (.int ((gi h 316 36) + (1 : Int32)))) 332 y.toNatClampNeg) + (1 : Int32)))) 333 y.toNatClampNeg (.int (gi (rk_pt (rk_pt h 316 36 (.int ((gi h 316 36) + (1 : Int32)))) 332 y.toNatClampNeg (.int ((gi (rk_pt h 316 36 (.int ((gi h 316 36) + (1 : Int32)))) 332 y.toNatClampNeg) + (1 : Int32)))) 316 20))) 316 20 (.int ((gi (rk_pt (rk_pt (rk_pt h 316 36 (.int ((gi h 316 36) + (1 : Int32)))) 332 y.toNatClampNeg (.int ((gi (rk_pt h 316 36 (.int ((gi h 316 36) + (1 : Int32)))) 332 y.toNatClampNeg) + (1 : Int32)))) 333 y.toNatClampNeg (.int (gi (rk_pt (rk_pt h 316 36 (.int ((gi h 316 36) + (1 : Int32)))) 332 y.toNatClampNeg (.int ((gi (rk_pt h 316 36 (.int ((gi h 316 36) + (1 : Int32)))) 332 y.toNatClampNeg) + (1 : Int32)))) 316 20))) 316 20) + (1 : Int32)))) 330 y.toNatClampNeg)))) 331 y.toNatClampNeg)), .int (gi (rk_pt (rk_pt (rk_pt (rk_pt (rk_pt h 316 36 (.int ((gi h 316 36) + (1 : Int32)))) 332 y.toNatClampNeg (.int ((gi (rk_pt h 316 36 (.int ((gi h 316 36) + (1 : Int32)))) 332 y.toNatClampNeg) + (1 : Int32)))) 333 y.toNatClampNeg (.int (gi (rk_pt (rk_pt h 316 36 (.int ((gi h 316 36) + (1 : Int32)))) 332 y.toNatClampNeg (.int ((gi (rk_pt h 316 36 (.int ((gi h 316 36) + (1 : Int32)))) 332 y.toNatClampNeg) + (1 : Int32)))) 316 20))) 316 20 (.int ((gi (rk_pt (rk_pt (rk_pt h 316 36 (.int ((gi h 316 36) + (1 : Int32)))) 332 y.toNatClampNeg (.int ((gi (rk_pt h 316 36 (.int ((gi h 316 36) + (1 : Int32)))) 332 y.toNatClampNeg) + (1 : Int32)))) 333 y.toNatClampNeg (.int (gi (rk_pt (rk_pt h 316 36 (.int ((gi h 316 36) + (1 : Int32)))) 332 y.toNatClampNeg (.int ((gi (rk_pt h 316 36 (.int ((gi h 316 36) + (1 : Int32)))) 332 y.toNatClampNeg) + (1 : Int32)))) 316 20))) 316 20) + (1 : Int32)))) 316 34 (.int ((gi (rk_pt (rk_pt (rk_pt (rk_pt h 316 36 (.int ((gi h 316 36) + (1 : Int32)))) 332 y.toNatClampNeg (.int ((gi (rk_pt h 316 36 (.int ((gi h 316 36) + (1 : Int32)))) 332 y.toNatClampNeg) + (1 : Int32)))) 333 y.toNatClampNeg (.int (gi (rk_pt (rk_pt h 316 36 (.int ((gi h 316 36) + (1 : Int32)))) 332 y.toNatClampNeg (.int ((gi (rk_pt h 316 36 (.int ((gi h 316 36) + (1 : Int32)))) 332 y.toNatClampNeg) + (1 : Int32)))) 316 20))) 316 20 (.int ((gi (rk_pt (rk_pt (rk_pt h 316 36 (.int ((gi h 316 36) + (1 : Int32)))) 332 y.toNatClampNeg (.int ((gi (rk_pt h 316 36 (.int ((gi h 316 36) + (1 : Int32)))) 332 y.toNatClampNeg) + (1 : Int32)))) 333 y.toNatClampNeg (.int (gi (rk_pt (rk_pt h 316 36 (.int ((gi h 316 36) + (1 : Int32)))) 332 y.toNatClampNeg (.int ((gi (rk_pt h 316 36 (.int ((gi h 316 36) + (1 : Int32)))) 332 y.toNatClampNeg) + (1 : Int32)))) 316 20))) 316 20) + (1 : Int32)))) 316 34) + (gi (rk_pt (rk_pt (rk_pt (rk_pt h 316 36 (.int ((gi h 316 36) + (1 : Int32)))) 332 y.toNatClampNeg (.int ((gi (rk_pt h 316 36 (.int ((gi h 316 36) + (1 : Int32)))) 332 y.toNatClampNeg) + (1 : Int32)))) 333 y.toNatClampNeg (.int (gi (rk_pt (rk_pt h 316 36 (.int ((gi h 316 36) + (1 : Int32)))) 332 y.toNatClampNeg (.int ((gi (rk_pt h 316 36 (.int ((gi h 316 36) + (1 : Int32)))) 332 y.toNatClampNeg) + (1 : Int32)))) 316 20))) 316 20 (.int ((gi (rk_pt (rk_pt (rk_pt h 316 36 (.int ((gi h 316 36) + (1 : Int32)))) 332 y.toNatClampNeg (.int ((gi (rk_pt h 316 36 (.int ((gi h 316 36) + (1 : Int32)))) 332 y.toNatClampNeg) + (1 : Int32)))) 333 y.toNatClampNeg (.int (gi (rk_pt (rk_pt h 316 36 (.int ((gi h 316 36) + (1 : Int32)))) 332 y.toNatClampNeg (.int ((gi (rk_pt h 316 36 (.int ((gi h 316 36) + (1 : Int32)))) 332 y.toNatClampNeg) + (1 : Int32)))) 316 20))) 316 20) + (1 : Int32)))) 330 y.toNatClampNeg)))) 316 38), .ref 316]) (h' := rk_pt (rk_pt (rk_pt (rk_pt (rk_pt h 316 36 (.int ((gi h 316 36) + (1 : Int32)))) 332 y.toNatClampNeg (.int ((gi (rk_pt h 316 36 (.int ((gi h 316 36) + (1 : Int32)))) 332 y.toNatClampNeg) + (1 : Int32)))) 333 y.toNatClampNeg (.int (gi (rk_pt (rk_pt h 316 36 (.int ((gi h 316 36) + (1 : Int32)))) 332 y.toNatClampNeg (.int ((gi (rk_pt h 316 36 (.int ((gi h 316 36) + (1 : Int32)))) 332 y.toNatClampNeg) + (1 : Int32)))) 316 20))) 316 20 (.int ((gi (rk_pt (rk_pt (rk_pt h 316 36 (.int ((gi h 316 36) + (1 : Int32)))) 332 y.toNatClampNeg (.int ((gi (rk_pt h 316 36 (.int ((gi h 316 36) + (1 : Int32)))) 332 y.toNatClampNeg) + (1 : Int32)))) 333 y.toNatClampNeg (.int (gi (rk_pt (rk_pt h 316 36 (.int ((gi h 316 36) + (1 : Int32)))) 332 y.toNatClampNeg (.int ((gi (rk_pt h 316 36 (.int ((gi h 316 36) + (1 : Int32)))) 332 y.toNatClampNeg) + (1 : Int32)))) 316 20))) 316 20) + (1 : Int32)))) 316 34 (.int ((gi (rk_pt (rk_pt (rk_pt (rk_pt h 316 36 (.int ((gi h 316 36) + (1 : Int32)))) 332 y.toNatClampNeg (.int ((gi (rk_pt h 316 36 (.int ((gi h 316 36) + (1 : Int32)))) 332 y.toNatClampNeg) + (1 : Int32)))) 333 y.toNatClampNeg (.int (gi (rk_pt (rk_pt h 316 36 (.int ((gi h 316 36) + (1 : Int32)))) 332 y.toNatClampNeg (.int ((gi (rk_pt h 316 36 (.int ((gi h 316 36) + (1 : Int32)))) 332 y.toNatClampNeg) + (1 : Int32)))) 316 20))) 316 20 (.int ((gi (rk_pt (rk_pt (rk_pt h 316 36 (.int ((gi h 316 36) + (1 : Int32)))) 332 y.toNatClampNeg (.int ((gi (rk_pt h 316 36 (.int ((gi h 316 36) + (1 : Int32)))) 332 y.toNatClampNeg) + (1 : Int32)))) 333 y.toNatClampNeg (.int (gi (rk_pt (rk_pt h 316 36 (.int ((gi h 316 36) + (1 : Int32)))) 332 y.toNatClampNeg (.int ((gi (rk_pt h 316 36 (.int ((gi h 316 36) + (1 : Int32)))) 332 y.toNatClampNeg) + (1 : Int32)))) 316 20))) 316 20) + (1 : Int32)))) 316 34) + (gi (rk_pt (rk_pt (rk_pt (rk_pt h 316 36 (.int ((gi h 316 36) + (1 : Int32)))) 332 y.toNatClampNeg (.int ((gi (rk_pt h 316 36 (.int ((gi h 316 36) + (1 : Int32)))) 332 y.toNatClampNeg) + (1 : Int32)))) 333 y.toNatClampNeg (.int (gi (rk_pt (rk_pt h 316 36 (.int ((gi h 316 36) + (1 : Int32)))) 332 y.toNatClampNeg (.int ((gi (rk_pt h 316 36 (.int ((gi h 316 36) + (1 : Int32)))) 332 y.toNatClampNeg) + (1 : Int32)))) 316 20))) 316 20 (.int ((gi (rk_pt (rk_pt (rk_pt h 316 36 (.int ((gi h 316 36) + (1 : Int32)))) 332 y.toNatClampNeg (.int ((gi (rk_pt h 316 36 (.int ((gi h 316 36) + (1 : Int32)))) 332 y.toNatClampNeg) + (1 : Int32)))) 333 y.toNatClampNeg (.int (gi (rk_pt (rk_pt h 316 36 (.int ((gi h 316 36) + (1 : Int32)))) 332 y.toNatClampNeg (.int ((gi (rk_pt h 316 36 (.int ((gi h 316 36) + (1 : Int32)))) 332 y.toNatClampNeg) + (1 : Int32)))) 316 20))) 316 20) + (1 : Int32)))) 330 y.toNatClampNeg)))) 47 rfl E hG
        try simp only [gi_x (a := 316) (a' := 332) (by decide), gi_x (a := 332) (a' := 316) (by decide), gi_y (k := 36) (k' := 20) (by decide), gi_x (a := 333) (a' := 316) (by decide), gi_y (k := 20) (k' := 34) (by decide), gi_y (k := 36) (k' := 34) (by decide), gi_x (a := 316) (a' := 330) (by decide), gi_x (a := 333) (a' := 330) (by decide), gi_x (a := 332) (a' := 330) (by decide), gi_x (a := 316) (a' := 330) (by decide), gi_y (k := 34) (k' := 38) (by decide), gi_y (k := 20) (k' := 38) (by decide), gi_y (k := 36) (k' := 38) (by decide), gi_y (k := 34) (k' := 24) (by decide), gi_y (k := 20) (k' := 24) (by decide), gi_y (k := 36) (k' := 24) (by decide), gi_x (a := 316) (a' := 331) (by decide), gi_x (a := 316) (a' := 331) (by decide), gi_x (a := 333) (a' := 331) (by decide), gi_x (a := 332) (a' := 331) (by decide), gi_x (a := 316) (a' := 331) (by decide)] at E hG
        rcases E_if2 (tg := 182) rfl rfl E with ⟨hc, m30, hm31, E⟩ | ⟨hc, m32, hm33, E⟩
        ·
          have c34 : (gi h 316 38).toInt ≤ (((gi h 316 24) + (1 : Int32)) + (gi h 331 y.toNatClampNeg)).toInt := hc
          clear hc
          obtain ⟨m35, hm36, E, hG⟩ := E_go (pc' := 214) (lv' := [(5, .int y), (0, .ref 316), (1, .int r), (2, .int a), (3, .int b), (4, .int c)]) (st' := [.int (gi (rk_pt (rk_pt (rk_pt (rk_pt (rk_pt (rk_pt h 316 36 (.int ((gi h 316 36) + (1 : Int32)))) 332 y.toNatClampNeg (.int ((gi h 332 y.toNatClampNeg) + (1 : Int32)))) 333 y.toNatClampNeg (.int (gi h 316 20))) 316 20 (.int ((gi h 316 20) + (1 : Int32)))) 316 34 (.int ((gi h 316 34) + (gi h 330 y.toNatClampNeg)))) 316 38 (.int (((gi (rk_pt (rk_pt (rk_pt (rk_pt (rk_pt h 316 36 (.int ((gi h 316 36) + (1 : Int32)))) 332 y.toNatClampNeg (.int ((gi h 332 y.toNatClampNeg) + (1 : Int32)))) 333 y.toNatClampNeg (.int (gi h 316 20))) 316 20 (.int ((gi h 316 20) + (1 : Int32)))) 316 34 (.int ((gi h 316 34) + (gi h 330 y.toNatClampNeg)))) 316 24) + (1 : Int32)) + (gi (rk_pt (rk_pt (rk_pt (rk_pt (rk_pt h 316 36 (.int ((gi h 316 36) + (1 : Int32)))) 332 y.toNatClampNeg (.int ((gi h 332 y.toNatClampNeg) + (1 : Int32)))) 333 y.toNatClampNeg (.int (gi h 316 20))) 316 20 (.int ((gi h 316 20) + (1 : Int32)))) 316 34 (.int ((gi h 316 34) + (gi h 330 y.toNatClampNeg)))) 331 y.toNatClampNeg)))) 331 y.toNatClampNeg), .int (gi (rk_pt (rk_pt (rk_pt (rk_pt (rk_pt (rk_pt h 316 36 (.int ((gi h 316 36) + (1 : Int32)))) 332 y.toNatClampNeg (.int ((gi h 332 y.toNatClampNeg) + (1 : Int32)))) 333 y.toNatClampNeg (.int (gi h 316 20))) 316 20 (.int ((gi h 316 20) + (1 : Int32)))) 316 34 (.int ((gi h 316 34) + (gi h 330 y.toNatClampNeg)))) 316 38 (.int (((gi (rk_pt (rk_pt (rk_pt (rk_pt (rk_pt h 316 36 (.int ((gi h 316 36) + (1 : Int32)))) 332 y.toNatClampNeg (.int ((gi h 332 y.toNatClampNeg) + (1 : Int32)))) 333 y.toNatClampNeg (.int (gi h 316 20))) 316 20 (.int ((gi h 316 20) + (1 : Int32)))) 316 34 (.int ((gi h 316 34) + (gi h 330 y.toNatClampNeg)))) 316 24) + (1 : Int32)) + (gi (rk_pt (rk_pt (rk_pt (rk_pt (rk_pt h 316 36 (.int ((gi h 316 36) + (1 : Int32)))) 332 y.toNatClampNeg (.int ((gi h 332 y.toNatClampNeg) + (1 : Int32)))) 333 y.toNatClampNeg (.int (gi h 316 20))) 316 20 (.int ((gi h 316 20) + (1 : Int32)))) 316 34 (.int ((gi h 316 34) + (gi h 330 y.toNatClampNeg)))) 331 y.toNatClampNeg)))) 326 y.toNatClampNeg), .ref 316]) (h' := rk_pt (rk_pt (rk_pt (rk_pt (rk_pt (rk_pt h 316 36 (.int ((gi h 316 36) + (1 : Int32)))) 332 y.toNatClampNeg (.int ((gi h 332 y.toNatClampNeg) + (1 : Int32)))) 333 y.toNatClampNeg (.int (gi h 316 20))) 316 20 (.int ((gi h 316 20) + (1 : Int32)))) 316 34 (.int ((gi h 316 34) + (gi h 330 y.toNatClampNeg)))) 316 38 (.int (((gi (rk_pt (rk_pt (rk_pt (rk_pt (rk_pt h 316 36 (.int ((gi h 316 36) + (1 : Int32)))) 332 y.toNatClampNeg (.int ((gi h 332 y.toNatClampNeg) + (1 : Int32)))) 333 y.toNatClampNeg (.int (gi h 316 20))) 316 20 (.int ((gi h 316 20) + (1 : Int32)))) 316 34 (.int ((gi h 316 34) + (gi h 330 y.toNatClampNeg)))) 316 24) + (1 : Int32)) + (gi (rk_pt (rk_pt (rk_pt (rk_pt (rk_pt h 316 36 (.int ((gi h 316 36) + (1 : Int32)))) 332 y.toNatClampNeg (.int ((gi h 332 y.toNatClampNeg) + (1 : Int32)))) 333 y.toNatClampNeg (.int (gi h 316 20))) 316 20 (.int ((gi h 316 20) + (1 : Int32)))) 316 34 (.int ((gi h 316 34) + (gi h 330 y.toNatClampNeg)))) 331 y.toNatClampNeg)))) 19 rfl E hG
          try simp only [gi_y (k := 34) (k' := 24) (by decide), gi_y (k := 20) (k' := 24) (by decide), gi_x (a := 333) (a' := 316) (by decide), gi_x (a := 332) (a' := 316) (by decide), gi_y (k := 36) (k' := 24) (by decide), gi_x (a := 316) (a' := 331) (by decide), gi_x (a := 316) (a' := 331) (by decide), gi_x (a := 333) (a' := 331) (by decide), gi_x (a := 332) (a' := 331) (by decide), gi_x (a := 316) (a' := 331) (by decide), gi_x (a := 316) (a' := 326) (by decide), gi_x (a := 316) (a' := 326) (by decide), gi_x (a := 316) (a' := 326) (by decide), gi_x (a := 333) (a' := 326) (by decide), gi_x (a := 332) (a' := 326) (by decide), gi_x (a := 316) (a' := 326) (by decide)] at E hG
          exact Or.inr (Or.inr (Or.inr (Or.inl ⟨c9, c18, c27, c34, _, (by omega), hG, E⟩)))
        ·
          have c37 : ¬ ((gi h 316 38).toInt ≤ (((gi h 316 24) + (1 : Int32)) + (gi h 331 y.toNatClampNeg)).toInt) := hc
          clear hc
          obtain ⟨m38, hm39, E, hG⟩ := E_go (pc' := 214) (lv' := [(5, .int y), (0, .ref 316), (1, .int r), (2, .int a), (3, .int b), (4, .int c)]) (st' := [.int (gi (rk_pt (rk_pt (rk_pt (rk_pt (rk_pt (rk_pt h 316 36 (.int ((gi h 316 36) + (1 : Int32)))) 332 y.toNatClampNeg (.int ((gi h 332 y.toNatClampNeg) + (1 : Int32)))) 333 y.toNatClampNeg (.int (gi h 316 20))) 316 20 (.int ((gi h 316 20) + (1 : Int32)))) 316 34 (.int ((gi h 316 34) + (gi h 330 y.toNatClampNeg)))) 316 38 (.int (gi (rk_pt (rk_pt (rk_pt (rk_pt (rk_pt h 316 36 (.int ((gi h 316 36) + (1 : Int32)))) 332 y.toNatClampNeg (.int ((gi h 332 y.toNatClampNeg) + (1 : Int32)))) 333 y.toNatClampNeg (.int (gi h 316 20))) 316 20 (.int ((gi h 316 20) + (1 : Int32)))) 316 34 (.int ((gi h 316 34) + (gi h 330 y.toNatClampNeg)))) 316 38))) 331 y.toNatClampNeg), .int (gi (rk_pt (rk_pt (rk_pt (rk_pt (rk_pt (rk_pt h 316 36 (.int ((gi h 316 36) + (1 : Int32)))) 332 y.toNatClampNeg (.int ((gi h 332 y.toNatClampNeg) + (1 : Int32)))) 333 y.toNatClampNeg (.int (gi h 316 20))) 316 20 (.int ((gi h 316 20) + (1 : Int32)))) 316 34 (.int ((gi h 316 34) + (gi h 330 y.toNatClampNeg)))) 316 38 (.int (gi (rk_pt (rk_pt (rk_pt (rk_pt (rk_pt h 316 36 (.int ((gi h 316 36) + (1 : Int32)))) 332 y.toNatClampNeg (.int ((gi h 332 y.toNatClampNeg) + (1 : Int32)))) 333 y.toNatClampNeg (.int (gi h 316 20))) 316 20 (.int ((gi h 316 20) + (1 : Int32)))) 316 34 (.int ((gi h 316 34) + (gi h 330 y.toNatClampNeg)))) 316 38))) 326 y.toNatClampNeg), .ref 316]) (h' := rk_pt (rk_pt (rk_pt (rk_pt (rk_pt (rk_pt h 316 36 (.int ((gi h 316 36) + (1 : Int32)))) 332 y.toNatClampNeg (.int ((gi h 332 y.toNatClampNeg) + (1 : Int32)))) 333 y.toNatClampNeg (.int (gi h 316 20))) 316 20 (.int ((gi h 316 20) + (1 : Int32)))) 316 34 (.int ((gi h 316 34) + (gi h 330 y.toNatClampNeg)))) 316 38 (.int (gi (rk_pt (rk_pt (rk_pt (rk_pt (rk_pt h 316 36 (.int ((gi h 316 36) + (1 : Int32)))) 332 y.toNatClampNeg (.int ((gi h 332 y.toNatClampNeg) + (1 : Int32)))) 333 y.toNatClampNeg (.int (gi h 316 20))) 316 20 (.int ((gi h 316 20) + (1 : Int32)))) 316 34 (.int ((gi h 316 34) + (gi h 330 y.toNatClampNeg)))) 316 38))) 13 rfl E hG
          try simp only [gi_y (k := 34) (k' := 38) (by decide), gi_y (k := 20) (k' := 38) (by decide), gi_x (a := 333) (a' := 316) (by decide), gi_x (a := 332) (a' := 316) (by decide), gi_y (k := 36) (k' := 38) (by decide), gi_x (a := 316) (a' := 326) (by decide), gi_x (a := 316) (a' := 326) (by decide), gi_x (a := 316) (a' := 326) (by decide), gi_x (a := 333) (a' := 326) (by decide), gi_x (a := 332) (a' := 326) (by decide), gi_x (a := 316) (a' := 326) (by decide), gi_x (a := 316) (a' := 331) (by decide), gi_x (a := 316) (a' := 331) (by decide), gi_x (a := 316) (a' := 331) (by decide), gi_x (a := 333) (a' := 331) (by decide), gi_x (a := 332) (a' := 331) (by decide), gi_x (a := 316) (a' := 331) (by decide)] at E hG
          exact Or.inr (Or.inr (Or.inr (Or.inr ⟨c9, c18, c27, c37, _, (by omega), hG, E⟩)))
set_option maxRecDepth 100000 in
set_option maxHeartbeats 4000000 in
theorem ym_en2 {n d : Nat} {h : rk_S} {o : Option Value × rk_S} {r a b c y : Int32} (hG : yG h) (E : rk_ex n d rm_X8_enter 251 [(5, .int y), (0, .ref 316), (1, .int r), (2, .int a), (3, .int b), (4, .int c)] [] h = some o) :
    (∃ m, m < n ∧ yG (rk_pt h 316 37 (.int ((gi h 316 37) + (1 : Int32)))) ∧ rk_ex m d rm_X8_enter 261 [(5, .int y), (0, .ref 316), (1, .int r), (2, .int a), (3, .int b), (4, .int c)] [] (rk_pt h 316 37 (.int ((gi h 316 37) + (1 : Int32)))) = some o) := by
  obtain ⟨m1, hm2, E, hG⟩ := E_go (pc' := 261) (lv' := [(5, .int y), (0, .ref 316), (1, .int r), (2, .int a), (3, .int b), (4, .int c)]) (st' := []) (h' := rk_pt h 316 37 (.int ((gi h 316 37) + (1 : Int32)))) 6 rfl E hG
  exact ⟨_, (by omega), hG, E⟩
set_option maxRecDepth 100000 in
set_option maxHeartbeats 4000000 in
theorem ym_ep0 {n d : Nat} {h : rk_S} {o : Option Value × rk_S} {r a b c : Int32} (hG : yG h) (E : rk_ex n d rm_X8_enter 261 [(0, .ref 316), (1, .int r), (2, .int a), (3, .int b), (4, .int c)] [] h = some o) :
    (∃ m, m < n ∧ yG (rk_pt (rk_pt h 334 ((gi h 316 24).toNatClampNeg) (.int r)) 335 ((gi h 316 24).toNatClampNeg) (.int (0 : Int32))) ∧ rk_ex m d rm_X8_enter 281 [(0, .ref 316), (1, .int r), (2, .int a), (3, .int b), (4, .int c)] [] (rk_pt (rk_pt h 334 ((gi h 316 24).toNatClampNeg) (.int r)) 335 ((gi h 316 24).toNatClampNeg) (.int (0 : Int32))) = some o) := by
  obtain ⟨m1, hm2, E, hG⟩ := E_go (pc' := 281) (lv' := [(0, .ref 316), (1, .int r), (2, .int a), (3, .int b), (4, .int c)]) (st' := []) (h' := rk_pt (rk_pt h 334 ((gi h 316 24).toNatClampNeg) (.int r)) 335 ((gi (rk_pt h 334 ((gi h 316 24).toNatClampNeg) (.int r)) 316 24).toNatClampNeg) (.int (0 : Int32))) 12 rfl E hG
  try simp only [gi_x (a := 334) (a' := 316) (by decide)] at E hG
  exact ⟨_, (by omega), hG, E⟩
set_option maxRecDepth 100000 in
set_option maxHeartbeats 4000000 in
theorem ym_eq0 {n d : Nat} {h : rk_S} {o : Option Value × rk_S} {r a b c y : Int32} (hG : yG h) (E : rk_ex n d rm_X8_enter 261 [(5, .int y), (0, .ref 316), (1, .int r), (2, .int a), (3, .int b), (4, .int c)] [] h = some o) :
    (∃ m, m < n ∧ yG (rk_pt (rk_pt h 334 ((gi h 316 24).toNatClampNeg) (.int r)) 335 ((gi h 316 24).toNatClampNeg) (.int (0 : Int32))) ∧ rk_ex m d rm_X8_enter 281 [(5, .int y), (0, .ref 316), (1, .int r), (2, .int a), (3, .int b), (4, .int c)] [] (rk_pt (rk_pt h 334 ((gi h 316 24).toNatClampNeg) (.int r)) 335 ((gi h 316 24).toNatClampNeg) (.int (0 : Int32))) = some o) := by
  obtain ⟨m1, hm2, E, hG⟩ := E_go (pc' := 281) (lv' := [(5, .int y), (0, .ref 316), (1, .int r), (2, .int a), (3, .int b), (4, .int c)]) (st' := []) (h' := rk_pt (rk_pt h 334 ((gi h 316 24).toNatClampNeg) (.int r)) 335 ((gi (rk_pt h 334 ((gi h 316 24).toNatClampNeg) (.int r)) 316 24).toNatClampNeg) (.int (0 : Int32))) 12 rfl E hG
  try simp only [gi_x (a := 334) (a' := 316) (by decide)] at E hG
  exact ⟨_, (by omega), hG, E⟩
set_option maxRecDepth 100000 in
set_option maxHeartbeats 4000000 in
theorem ym_ep1 {n d : Nat} {h : rk_S} {o : Option Value × rk_S} {r a b c : Int32} (hG : yG h) (E : rk_ex n d rm_X8_enter 281 [(0, .ref 316), (1, .int r), (2, .int a), (3, .int b), (4, .int c)] [] h = some o) :
    (∃ m, m < n ∧ yG (rk_pt (rk_pt h 336 (((3 : Int32) * (gi h 316 24)).toNatClampNeg) (.int a)) 336 ((((3 : Int32) * (gi h 316 24)) + (1 : Int32)).toNatClampNeg) (.int b)) ∧ rk_ex m d rm_X8_enter 307 [(0, .ref 316), (1, .int r), (2, .int a), (3, .int b), (4, .int c)] [] (rk_pt (rk_pt h 336 (((3 : Int32) * (gi h 316 24)).toNatClampNeg) (.int a)) 336 ((((3 : Int32) * (gi h 316 24)) + (1 : Int32)).toNatClampNeg) (.int b)) = some o) := by
  obtain ⟨m1, hm2, E, hG⟩ := E_go (pc' := 307) (lv' := [(0, .ref 316), (1, .int r), (2, .int a), (3, .int b), (4, .int c)]) (st' := []) (h' := rk_pt (rk_pt h 336 (((3 : Int32) * (gi h 316 24)).toNatClampNeg) (.int a)) 336 ((((3 : Int32) * (gi (rk_pt h 336 (((3 : Int32) * (gi h 316 24)).toNatClampNeg) (.int a)) 316 24)) + (1 : Int32)).toNatClampNeg) (.int b)) 18 rfl E hG
  try simp only [gi_x (a := 336) (a' := 316) (by decide)] at E hG
  exact ⟨_, (by omega), hG, E⟩
set_option maxRecDepth 100000 in
set_option maxHeartbeats 4000000 in
theorem ym_eq1 {n d : Nat} {h : rk_S} {o : Option Value × rk_S} {r a b c y : Int32} (hG : yG h) (E : rk_ex n d rm_X8_enter 281 [(5, .int y), (0, .ref 316), (1, .int r), (2, .int a), (3, .int b), (4, .int c)] [] h = some o) :
    (∃ m, m < n ∧ yG (rk_pt (rk_pt h 336 (((3 : Int32) * (gi h 316 24)).toNatClampNeg) (.int a)) 336 ((((3 : Int32) * (gi h 316 24)) + (1 : Int32)).toNatClampNeg) (.int b)) ∧ rk_ex m d rm_X8_enter 307 [(5, .int y), (0, .ref 316), (1, .int r), (2, .int a), (3, .int b), (4, .int c)] [] (rk_pt (rk_pt h 336 (((3 : Int32) * (gi h 316 24)).toNatClampNeg) (.int a)) 336 ((((3 : Int32) * (gi h 316 24)) + (1 : Int32)).toNatClampNeg) (.int b)) = some o) := by
  obtain ⟨m1, hm2, E, hG⟩ := E_go (pc' := 307) (lv' := [(5, .int y), (0, .ref 316), (1, .int r), (2, .int a), (3, .int b), (4, .int c)]) (st' := []) (h' := rk_pt (rk_pt h 336 (((3 : Int32) * (gi h 316 24)).toNatClampNeg) (.int a)) 336 ((((3 : Int32) * (gi (rk_pt h 336 (((3 : Int32) * (gi h 316 24)).toNatClampNeg) (.int a)) 316 24)) + (1 : Int32)).toNatClampNeg) (.int b)) 18 rfl E hG
  try simp only [gi_x (a := 336) (a' := 316) (by decide)] at E hG
  exact ⟨_, (by omega), hG, E⟩
set_option maxRecDepth 100000 in
set_option maxHeartbeats 4000000 in
theorem ym_ep2 {n d : Nat} {h : rk_S} {o : Option Value × rk_S} {r a b c : Int32} (hG : yG h) (E : rk_ex n d rm_X8_enter 307 [(0, .ref 316), (1, .int r), (2, .int a), (3, .int b), (4, .int c)] [] h = some o) :
    (∃ m, m < n ∧ yG (rk_pt (rk_pt h 336 ((((3 : Int32) * (gi h 316 24)) + (2 : Int32)).toNatClampNeg) (.int c)) 337 ((gi h 316 24).toNatClampNeg) (.int (0 : Int32))) ∧ rk_ex m d rm_X8_enter 332 [(0, .ref 316), (1, .int r), (2, .int a), (3, .int b), (4, .int c)] [] (rk_pt (rk_pt h 336 ((((3 : Int32) * (gi h 316 24)) + (2 : Int32)).toNatClampNeg) (.int c)) 337 ((gi h 316 24).toNatClampNeg) (.int (0 : Int32))) = some o) := by
  obtain ⟨m1, hm2, E, hG⟩ := E_go (pc' := 332) (lv' := [(0, .ref 316), (1, .int r), (2, .int a), (3, .int b), (4, .int c)]) (st' := []) (h' := rk_pt (rk_pt h 336 ((((3 : Int32) * (gi h 316 24)) + (2 : Int32)).toNatClampNeg) (.int c)) 337 ((gi (rk_pt h 336 ((((3 : Int32) * (gi h 316 24)) + (2 : Int32)).toNatClampNeg) (.int c)) 316 24).toNatClampNeg) (.int (0 : Int32))) 16 rfl E hG
  try simp only [gi_x (a := 336) (a' := 316) (by decide)] at E hG
  exact ⟨_, (by omega), hG, E⟩
set_option maxRecDepth 100000 in
set_option maxHeartbeats 4000000 in
theorem ym_eq2 {n d : Nat} {h : rk_S} {o : Option Value × rk_S} {r a b c y : Int32} (hG : yG h) (E : rk_ex n d rm_X8_enter 307 [(5, .int y), (0, .ref 316), (1, .int r), (2, .int a), (3, .int b), (4, .int c)] [] h = some o) :
    (∃ m, m < n ∧ yG (rk_pt (rk_pt h 336 ((((3 : Int32) * (gi h 316 24)) + (2 : Int32)).toNatClampNeg) (.int c)) 337 ((gi h 316 24).toNatClampNeg) (.int (0 : Int32))) ∧ rk_ex m d rm_X8_enter 332 [(5, .int y), (0, .ref 316), (1, .int r), (2, .int a), (3, .int b), (4, .int c)] [] (rk_pt (rk_pt h 336 ((((3 : Int32) * (gi h 316 24)) + (2 : Int32)).toNatClampNeg) (.int c)) 337 ((gi h 316 24).toNatClampNeg) (.int (0 : Int32))) = some o) := by
  obtain ⟨m1, hm2, E, hG⟩ := E_go (pc' := 332) (lv' := [(5, .int y), (0, .ref 316), (1, .int r), (2, .int a), (3, .int b), (4, .int c)]) (st' := []) (h' := rk_pt (rk_pt h 336 ((((3 : Int32) * (gi h 316 24)) + (2 : Int32)).toNatClampNeg) (.int c)) 337 ((gi (rk_pt h 336 ((((3 : Int32) * (gi h 316 24)) + (2 : Int32)).toNatClampNeg) (.int c)) 316 24).toNatClampNeg) (.int (0 : Int32))) 16 rfl E hG
  try simp only [gi_x (a := 336) (a' := 316) (by decide)] at E hG
  exact ⟨_, (by omega), hG, E⟩
set_option maxRecDepth 100000 in
set_option maxHeartbeats 4000000 in
theorem ym_ep3 {n d : Nat} {h : rk_S} {o : Option Value × rk_S} {r a b c : Int32} (hG : yG h) (E : rk_ex n d rm_X8_enter 332 [(0, .ref 316), (1, .int r), (2, .int a), (3, .int b), (4, .int c)] [] h = some o) :
    (∃ m, m < n ∧ yG (rk_pt (rk_pt h 339 ((gi h 316 24).toNatClampNeg) (.int (gi h 316 34))) 340 ((gi h 316 24).toNatClampNeg) (.int (0 : Int32))) ∧ rk_ex m d rm_X8_enter 355 [(0, .ref 316), (1, .int r), (2, .int a), (3, .int b), (4, .int c)] [] (rk_pt (rk_pt h 339 ((gi h 316 24).toNatClampNeg) (.int (gi h 316 34))) 340 ((gi h 316 24).toNatClampNeg) (.int (0 : Int32))) = some o) := by
  obtain ⟨m1, hm2, E, hG⟩ := E_go (pc' := 355) (lv' := [(0, .ref 316), (1, .int r), (2, .int a), (3, .int b), (4, .int c)]) (st' := []) (h' := rk_pt (rk_pt h 339 ((gi h 316 24).toNatClampNeg) (.int (gi h 316 34))) 340 ((gi (rk_pt h 339 ((gi h 316 24).toNatClampNeg) (.int (gi h 316 34))) 316 24).toNatClampNeg) (.int (0 : Int32))) 13 rfl E hG
  try simp only [gi_x (a := 339) (a' := 316) (by decide)] at E hG
  exact ⟨_, (by omega), hG, E⟩
set_option maxRecDepth 100000 in
set_option maxHeartbeats 4000000 in
theorem ym_eq3 {n d : Nat} {h : rk_S} {o : Option Value × rk_S} {r a b c y : Int32} (hG : yG h) (E : rk_ex n d rm_X8_enter 332 [(5, .int y), (0, .ref 316), (1, .int r), (2, .int a), (3, .int b), (4, .int c)] [] h = some o) :
    (∃ m, m < n ∧ yG (rk_pt (rk_pt h 339 ((gi h 316 24).toNatClampNeg) (.int (gi h 316 34))) 340 ((gi h 316 24).toNatClampNeg) (.int (0 : Int32))) ∧ rk_ex m d rm_X8_enter 355 [(5, .int y), (0, .ref 316), (1, .int r), (2, .int a), (3, .int b), (4, .int c)] [] (rk_pt (rk_pt h 339 ((gi h 316 24).toNatClampNeg) (.int (gi h 316 34))) 340 ((gi h 316 24).toNatClampNeg) (.int (0 : Int32))) = some o) := by
  obtain ⟨m1, hm2, E, hG⟩ := E_go (pc' := 355) (lv' := [(5, .int y), (0, .ref 316), (1, .int r), (2, .int a), (3, .int b), (4, .int c)]) (st' := []) (h' := rk_pt (rk_pt h 339 ((gi h 316 24).toNatClampNeg) (.int (gi h 316 34))) 340 ((gi (rk_pt h 339 ((gi h 316 24).toNatClampNeg) (.int (gi h 316 34))) 316 24).toNatClampNeg) (.int (0 : Int32))) 13 rfl E hG
  try simp only [gi_x (a := 339) (a' := 316) (by decide)] at E hG
  exact ⟨_, (by omega), hG, E⟩
set_option maxRecDepth 100000 in
set_option maxHeartbeats 4000000 in
theorem ym_ep4 {n d : Nat} {h : rk_S} {o : Option Value × rk_S} {r a b c : Int32} (hG : yG h) (E : rk_ex n d rm_X8_enter 355 [(0, .ref 316), (1, .int r), (2, .int a), (3, .int b), (4, .int c)] [] h = some o) :
    (∃ m, m < n ∧ yG (rk_pt (rk_pt h 341 ((gi h 316 24).toNatClampNeg) (.int (0 : Int32))) 342 ((gi h 316 24).toNatClampNeg) (.int (0 : Int32))) ∧ rk_ex m d rm_X8_enter 375 [(0, .ref 316), (1, .int r), (2, .int a), (3, .int b), (4, .int c)] [] (rk_pt (rk_pt h 341 ((gi h 316 24).toNatClampNeg) (.int (0 : Int32))) 342 ((gi h 316 24).toNatClampNeg) (.int (0 : Int32))) = some o) := by
  obtain ⟨m1, hm2, E, hG⟩ := E_go (pc' := 375) (lv' := [(0, .ref 316), (1, .int r), (2, .int a), (3, .int b), (4, .int c)]) (st' := []) (h' := rk_pt (rk_pt h 341 ((gi h 316 24).toNatClampNeg) (.int (0 : Int32))) 342 ((gi (rk_pt h 341 ((gi h 316 24).toNatClampNeg) (.int (0 : Int32))) 316 24).toNatClampNeg) (.int (0 : Int32))) 12 rfl E hG
  try simp only [gi_x (a := 341) (a' := 316) (by decide)] at E hG
  exact ⟨_, (by omega), hG, E⟩
set_option maxRecDepth 100000 in
set_option maxHeartbeats 4000000 in
theorem ym_eq4 {n d : Nat} {h : rk_S} {o : Option Value × rk_S} {r a b c y : Int32} (hG : yG h) (E : rk_ex n d rm_X8_enter 355 [(5, .int y), (0, .ref 316), (1, .int r), (2, .int a), (3, .int b), (4, .int c)] [] h = some o) :
    (∃ m, m < n ∧ yG (rk_pt (rk_pt h 341 ((gi h 316 24).toNatClampNeg) (.int (0 : Int32))) 342 ((gi h 316 24).toNatClampNeg) (.int (0 : Int32))) ∧ rk_ex m d rm_X8_enter 375 [(5, .int y), (0, .ref 316), (1, .int r), (2, .int a), (3, .int b), (4, .int c)] [] (rk_pt (rk_pt h 341 ((gi h 316 24).toNatClampNeg) (.int (0 : Int32))) 342 ((gi h 316 24).toNatClampNeg) (.int (0 : Int32))) = some o) := by
  obtain ⟨m1, hm2, E, hG⟩ := E_go (pc' := 375) (lv' := [(5, .int y), (0, .ref 316), (1, .int r), (2, .int a), (3, .int b), (4, .int c)]) (st' := []) (h' := rk_pt (rk_pt h 341 ((gi h 316 24).toNatClampNeg) (.int (0 : Int32))) 342 ((gi (rk_pt h 341 ((gi h 316 24).toNatClampNeg) (.int (0 : Int32))) 316 24).toNatClampNeg) (.int (0 : Int32))) 12 rfl E hG
  try simp only [gi_x (a := 341) (a' := 316) (by decide)] at E hG
  exact ⟨_, (by omega), hG, E⟩
set_option maxRecDepth 100000 in
set_option maxHeartbeats 4000000 in
theorem ym_ep5 {n d : Nat} {h : rk_S} {o : Option Value × rk_S} {r a b c : Int32} (hG : yG h) (E : rk_ex n d rm_X8_enter 375 [(0, .ref 316), (1, .int r), (2, .int a), (3, .int b), (4, .int c)] [] h = some o) :
    (yG (rk_pt h 316 24 (.int ((gi h 316 24) + (1 : Int32)))) ∧ o = (none, rk_pt h 316 24 (.int ((gi h 316 24) + (1 : Int32))))) := by
  obtain ⟨m1, hm2, E, hG⟩ := E_go (pc' := 385) (lv' := [(0, .ref 316), (1, .int r), (2, .int a), (3, .int b), (4, .int c)]) (st' := []) (h' := rk_pt h 316 24 (.int ((gi h 316 24) + (1 : Int32)))) 6 rfl E hG
  have ho3 := E_retv rfl E
  exact ⟨hG, ho3⟩
set_option maxRecDepth 100000 in
set_option maxHeartbeats 4000000 in
theorem ym_eq5 {n d : Nat} {h : rk_S} {o : Option Value × rk_S} {r a b c y : Int32} (hG : yG h) (E : rk_ex n d rm_X8_enter 375 [(5, .int y), (0, .ref 316), (1, .int r), (2, .int a), (3, .int b), (4, .int c)] [] h = some o) :
    (yG (rk_pt h 316 24 (.int ((gi h 316 24) + (1 : Int32)))) ∧ o = (none, rk_pt h 316 24 (.int ((gi h 316 24) + (1 : Int32))))) := by
  obtain ⟨m1, hm2, E, hG⟩ := E_go (pc' := 385) (lv' := [(5, .int y), (0, .ref 316), (1, .int r), (2, .int a), (3, .int b), (4, .int c)]) (st' := []) (h' := rk_pt h 316 24 (.int ((gi h 316 24) + (1 : Int32)))) 6 rfl E hG
  have ho3 := E_retv rfl E
  exact ⟨hG, ho3⟩
set_option maxRecDepth 100000 in
set_option maxHeartbeats 4000000 in
theorem ym_en4 {n d : Nat} {h : rk_S} {o : Option Value × rk_S} {r a b c y : Int32} (hG : yG h) (E : rk_ex n d rm_X8_enter 217 [(5, .int y), (0, .ref 316), (1, .int r), (2, .int a), (3, .int b), (4, .int c)] [] h = some o) :
    (¬ (gi (rk_pt h 316 39 (.int (gi h 329 y.toNatClampNeg))) 316 39).toInt = 0 ∧ yG (rk_pt (rk_pt h 316 39 (.int (gi h 329 y.toNatClampNeg))) 316 41 (.int (gi h 328 y.toNatClampNeg))) ∧ o = (none, rk_pt (rk_pt h 316 39 (.int (gi h 329 y.toNatClampNeg))) 316 41 (.int (gi h 328 y.toNatClampNeg)))) ∨
    ((gi (rk_pt h 316 39 (.int (gi h 329 y.toNatClampNeg))) 316 39).toInt = 0 ∧ ∃ m, m < n + 1 ∧ yG (rk_pt (rk_pt h 316 39 (.int (gi h 329 y.toNatClampNeg))) 316 41 (.int (gi h 328 y.toNatClampNeg))) ∧ rk_ex m d rm_X8_enter 247 [(5, .int y), (0, .ref 316), (1, .int r), (2, .int a), (3, .int b), (4, .int c)] [.ref 316] (rk_pt (rk_pt h 316 39 (.int (gi h 329 y.toNatClampNeg))) 316 41 (.int (gi h 328 y.toNatClampNeg))) = some o) := by
  obtain ⟨m1, hm2, E, hG⟩ := E_go (pc' := 243) (lv' := [(5, .int y), (0, .ref 316), (1, .int r), (2, .int a), (3, .int b), (4, .int c)]) (st' := [.int (gi (rk_pt (rk_pt h 316 39 (.int (gi h 329 y.toNatClampNeg))) 316 41 (.int (gi (rk_pt h 316 39 (.int (gi h 329 y.toNatClampNeg))) 328 y.toNatClampNeg))) 316 39)]) (h' := rk_pt (rk_pt h 316 39 (.int (gi h 329 y.toNatClampNeg))) 316 41 (.int (gi (rk_pt h 316 39 (.int (gi h 329 y.toNatClampNeg))) 328 y.toNatClampNeg))) 14 rfl E hG
  try simp only [gi_x (a := 316) (a' := 328) (by decide), gi_y (k := 41) (k' := 39) (by decide)] at E hG
  rcases E_if1 (tg := 250) rfl rfl E with ⟨hc, m3, hm4, E⟩ | ⟨hc, m5, hm6, E⟩
  ·
    have c7 : ¬ (gi (rk_pt h 316 39 (.int (gi h 329 y.toNatClampNeg))) 316 39).toInt = 0 := hc
    clear hc
    have ho8 := E_retv rfl E
    exact Or.inl ⟨c7, hG, ho8⟩
  ·
    have c9 : (gi (rk_pt h 316 39 (.int (gi h 329 y.toNatClampNeg))) 316 39).toInt = 0 := Decidable.not_not.mp hc
    clear hc
    obtain ⟨m10, hm11, E, hG⟩ := E_go (pc' := 247) (lv' := [(5, .int y), (0, .ref 316), (1, .int r), (2, .int a), (3, .int b), (4, .int c)]) (st' := [.ref 316]) (h' := rk_pt (rk_pt h 316 39 (.int (gi h 329 y.toNatClampNeg))) 316 41 (.int (gi h 328 y.toNatClampNeg))) 1 rfl E hG
    exact Or.inr ⟨c9, _, (by omega), hG, E⟩
set_option maxRecDepth 100000 in
set_option maxHeartbeats 4000000 in
theorem ym_en5 {n d : Nat} {h : rk_S} {o : Option Value × rk_S} {r a b c y : Int32} (hG : yG h) (E : rk_ex n d rm_X8_enter 250 [(5, .int y), (0, .ref 316), (1, .int r), (2, .int a), (3, .int b), (4, .int c)] [] h = some o) :
    (yG h ∧ o = (none, h)) := by
  have ho1 := E_retv rfl E
  exact ⟨hG, ho1⟩
set_option maxRecDepth 100000 in
set_option maxHeartbeats 4000000 in
theorem ym_st {n d : Nat} {h : rk_S} {o : Option Value × rk_S} (hG : yG h) (E : rk_ex n d rm_X8_step 0 [(0, .ref 316)] [] h = some o) :
    (¬ (gi h 316 34).toInt = 2000 ∧ ∃ m, m < n ∧ yG (rk_pt (rk_pt (rk_pt h 316 34 (.int ((gi h 316 34) + (1 : Int32)))) 316 35 (.int ((gi h 316 35) + (1 : Int32)))) 335 (((gi h 316 24) - (1 : Int32)).toNatClampNeg) (.int ((gi h 335 (((gi h 316 24) - (1 : Int32)).toNatClampNeg)) + (1 : Int32)))) ∧ rk_ex m d rm_X8_step 80 [(2, .int (gi h 318 ((((40 : Int32) * (gi h 334 (((gi h 316 24) - (1 : Int32)).toNatClampNeg))) + (gi h 335 (((gi h 316 24) - (1 : Int32)).toNatClampNeg))).toNatClampNeg))), (1, .int ((gi h 316 24) - (1 : Int32))), (0, .ref 316)] [] (rk_pt (rk_pt (rk_pt h 316 34 (.int ((gi h 316 34) + (1 : Int32)))) 316 35 (.int ((gi h 316 35) + (1 : Int32)))) 335 (((gi h 316 24) - (1 : Int32)).toNatClampNeg) (.int ((gi h 335 (((gi h 316 24) - (1 : Int32)).toNatClampNeg)) + (1 : Int32)))) = some o) ∨
    ((gi h 316 34).toInt = 2000 ∧ yG (rk_pt (rk_pt h 316 39 (.int (5 : Int32))) 316 40 (.int (0 : Int32))) ∧ o = (none, rk_pt (rk_pt h 316 39 (.int (5 : Int32))) 316 40 (.int (0 : Int32)))) := by
  obtain ⟨m1, hm2, E, hG⟩ := E_go (pc' := 14) (lv' := [(1, .int ((gi h 316 24) - (1 : Int32))), (0, .ref 316)]) (st' := [.int (2000 : Int32), .int (gi h 316 34)]) (h' := h) 8 rfl E hG
  rcases E_if2 (tg := 28) rfl rfl E with ⟨hc, m3, hm4, E⟩ | ⟨hc, m5, hm6, E⟩
  ·
    have c7 : ¬ (gi h 316 34).toInt = 2000 := hc
    clear hc
    obtain ⟨m8, hm9, E, hG⟩ := E_go (pc' := 80) (lv' := [(2, .int (gi (rk_pt (rk_pt h 316 34 (.int ((gi h 316 34) + (1 : Int32)))) 316 35 (.int ((gi (rk_pt h 316 34 (.int ((gi h 316 34) + (1 : Int32)))) 316 35) + (1 : Int32)))) 318 ((((40 : Int32) * (gi (rk_pt (rk_pt h 316 34 (.int ((gi h 316 34) + (1 : Int32)))) 316 35 (.int ((gi (rk_pt h 316 34 (.int ((gi h 316 34) + (1 : Int32)))) 316 35) + (1 : Int32)))) 334 (((gi h 316 24) - (1 : Int32)).toNatClampNeg))) + (gi (rk_pt (rk_pt h 316 34 (.int ((gi h 316 34) + (1 : Int32)))) 316 35 (.int ((gi (rk_pt h 316 34 (.int ((gi h 316 34) + (1 : Int32)))) 316 35) + (1 : Int32)))) 335 (((gi h 316 24) - (1 : Int32)).toNatClampNeg))).toNatClampNeg))), (1, .int ((gi h 316 24) - (1 : Int32))), (0, .ref 316)]) (st' := []) (h' := rk_pt (rk_pt (rk_pt h 316 34 (.int ((gi h 316 34) + (1 : Int32)))) 316 35 (.int ((gi (rk_pt h 316 34 (.int ((gi h 316 34) + (1 : Int32)))) 316 35) + (1 : Int32)))) 335 (((gi h 316 24) - (1 : Int32)).toNatClampNeg) (.int ((gi (rk_pt (rk_pt h 316 34 (.int ((gi h 316 34) + (1 : Int32)))) 316 35 (.int ((gi (rk_pt h 316 34 (.int ((gi h 316 34) + (1 : Int32)))) 316 35) + (1 : Int32)))) 335 (((gi h 316 24) - (1 : Int32)).toNatClampNeg)) + (1 : Int32)))) 35 rfl E hG
    try simp only [gi_y (k := 34) (k' := 35) (by decide), gi_x (a := 316) (a' := 334) (by decide), gi_x (a := 316) (a' := 334) (by decide), gi_x (a := 316) (a' := 335) (by decide), gi_x (a := 316) (a' := 335) (by decide), gi_x (a := 316) (a' := 318) (by decide), gi_x (a := 316) (a' := 318) (by decide)] at E hG
    exact Or.inl ⟨c7, _, (by omega), hG, E⟩
  ·
    have c11 : (gi h 316 34).toInt = 2000 := Decidable.not_not.mp hc
    clear hc
    obtain ⟨m12, hm13, E, hG⟩ := E_go (pc' := 19) (lv' := [(1, .int ((gi h 316 24) - (1 : Int32))), (0, .ref 316)]) (st' := [.int (5 : Int32), .ref 316]) (h' := h) 2 rfl E hG
    obtain ⟨m14, d15, o16, hm18, E17, F17⟩ := E_call (ar := ([.ref 316, .int (5 : Int32)], [])) rfl rfl rfl rfl rfl rfl E
    replace E17 : rk_ex m14 d15 rm_X8_refuse 0 [(0, .ref 316), (1, .int (5 : Int32))] [] h = some o16 := E17
    obtain ⟨m19, hm20, E17, hG⟩ := E_go (pc' := 5) (lv' := [(0, .ref 316), (1, .int (5 : Int32))]) (st' := []) (h' := rk_pt h 316 39 (.int (5 : Int32))) 3 rfl E17 hG
    have ho21 := E_retv rfl E17
    subst ho21
    have E : rk_ex m14 d rm_X8_step 22 [(1, .int ((gi h 316 24) - (1 : Int32))), (0, .ref 316)] [] (rk_pt h 316 39 (.int (5 : Int32))) = some o := F17
    obtain ⟨m22, hm23, E, hG⟩ := E_go (pc' := 27) (lv' := [(1, .int ((gi h 316 24) - (1 : Int32))), (0, .ref 316)]) (st' := []) (h' := rk_pt (rk_pt h 316 39 (.int (5 : Int32))) 316 40 (.int (0 : Int32))) 3 rfl E hG
    have ho24 := E_retv rfl E
    exact Or.inr ⟨c11, hG, ho24⟩
set_option maxRecDepth 100000 in
set_option maxHeartbeats 4000000 in
theorem ym_sc {n d : Nat} {h : rk_S} {o : Option Value × rk_S} {c f : Int32} (hG : yG h) (e337 : yE 337 f.toNatClampNeg h) (E : rk_ex n d rm_X8_step 80 [(2, .int c), (1, .int f), (0, .ref 316)] [] h = some o) :
    (c.toInt < 300 ∧ 0 ≤ (gi h 337 f.toNatClampNeg).toInt ∧ 100 ≤ c.toInt ∧ 200 ≤ c.toInt ∧ ∃ m, m < n + 1 ∧ yG (rk_pt h 341 f.toNatClampNeg (.int ((gi h 341 f.toNatClampNeg) ||| ((1 : Int32) <<< ((c - (200 : Int32)) &&& 31))))) ∧ rk_ex m d rm_X8_step 202 [(2, .int c), (1, .int f), (0, .ref 316)] [.int (gi h 320 (((((16 : Int32) * (gi h 316 21)) + c) - (200 : Int32)).toNatClampNeg)), .int f, .ref 316] (rk_pt h 341 f.toNatClampNeg (.int ((gi h 341 f.toNatClampNeg) ||| ((1 : Int32) <<< ((c - (200 : Int32)) &&& 31))))) = some o) ∨
    (c.toInt < 300 ∧ 0 ≤ (gi h 337 f.toNatClampNeg).toInt ∧ 100 ≤ c.toInt ∧ ¬ (200 ≤ c.toInt) ∧ ∃ m, m < n + 1 ∧ yG (rk_pt h 340 f.toNatClampNeg (.int ((gi h 340 f.toNatClampNeg) ||| ((1 : Int32) <<< ((c - (100 : Int32)) &&& 31))))) ∧ rk_ex m d rm_X8_step 153 [(2, .int c), (1, .int f), (0, .ref 316)] [.int (gi h 336 (((((3 : Int32) * f) + c) - (100 : Int32)).toNatClampNeg)), .int f, .ref 316] (rk_pt h 340 f.toNatClampNeg (.int ((gi h 340 f.toNatClampNeg) ||| ((1 : Int32) <<< ((c - (100 : Int32)) &&& 31))))) = some o) ∨
    (c.toInt < 300 ∧ 0 ≤ (gi h 337 f.toNatClampNeg).toInt ∧ ¬ (100 ≤ c.toInt) ∧ ∃ m, m < n + 1 ∧ yG h ∧ rk_ex m d rm_X8_step 110 [(2, .int c), (1, .int f), (0, .ref 316)] [.int c, .int f, .ref 316] h = some o) ∨
    (c.toInt < 300 ∧ ¬ (0 ≤ (gi h 337 f.toNatClampNeg).toInt) ∧ yG (rk_pt h 316 39 (.int (1 : Int32))) ∧ o = (none, rk_pt h 316 39 (.int (1 : Int32)))) ∨
    (¬ (c.toInt < 300) ∧ ¬ c.toInt = 508 ∧ 400 ≤ c.toInt ∧ 500 ≤ c.toInt ∧ 506 ≤ c.toInt ∧ 1 ≤ (gi h 337 f.toNatClampNeg).toInt ∧ 600 ≤ c.toInt ∧ ∃ m, m < n ∧ yG h ∧ rk_ex m d rm_X8_step 302 [(2, .int c), (1, .int f), (0, .ref 316)] [] h = some o) ∨
    (¬ (c.toInt < 300) ∧ ¬ c.toInt = 508 ∧ 400 ≤ c.toInt ∧ 500 ≤ c.toInt ∧ 506 ≤ c.toInt ∧ 1 ≤ (gi h 337 f.toNatClampNeg).toInt ∧ ¬ (600 ≤ c.toInt) ∧ ∃ m, m < n + 1 ∧ yG h ∧ rk_ex m d rm_X8_step 296 [(2, .int c), (1, .int f), (0, .ref 316)] [.int (c - (500 : Int32)), .int f, .ref 316] h = some o) ∨
    (¬ (c.toInt < 300) ∧ ¬ c.toInt = 508 ∧ 400 ≤ c.toInt ∧ 500 ≤ c.toInt ∧ 506 ≤ c.toInt ∧ ¬ (1 ≤ (gi h 337 f.toNatClampNeg).toInt) ∧ yG (rk_pt h 316 39 (.int (1 : Int32))) ∧ o = (none, rk_pt h 316 39 (.int (1 : Int32)))) ∨
    (¬ (c.toInt < 300) ∧ ¬ c.toInt = 508 ∧ 400 ≤ c.toInt ∧ 500 ≤ c.toInt ∧ ¬ (506 ≤ c.toInt) ∧ 2 ≤ (gi h 337 f.toNatClampNeg).toInt ∧ ∃ m, m < n + 1 ∧ yG h ∧ rk_ex m d rm_X8_step 296 [(2, .int c), (1, .int f), (0, .ref 316)] [.int (c - (500 : Int32)), .int f, .ref 316] h = some o) ∨
    (¬ (c.toInt < 300) ∧ ¬ c.toInt = 508 ∧ 400 ≤ c.toInt ∧ 500 ≤ c.toInt ∧ ¬ (506 ≤ c.toInt) ∧ ¬ (2 ≤ (gi h 337 f.toNatClampNeg).toInt) ∧ yG (rk_pt h 316 39 (.int (1 : Int32))) ∧ o = (none, rk_pt h 316 39 (.int (1 : Int32)))) ∨
    (¬ (c.toInt < 300) ∧ ¬ c.toInt = 508 ∧ 400 ≤ c.toInt ∧ ¬ (500 ≤ c.toInt) ∧ 3 ≤ (gi h 337 f.toNatClampNeg).toInt ∧ ∃ m, m < n + 1 ∧ yG h ∧ rk_ex m d rm_X8_step 276 [(2, .int c), (1, .int f), (0, .ref 316)] [.int (c - (400 : Int32)), .int f, .ref 316] h = some o) ∨
    (¬ (c.toInt < 300) ∧ ¬ c.toInt = 508 ∧ 400 ≤ c.toInt ∧ ¬ (500 ≤ c.toInt) ∧ ¬ (3 ≤ (gi h 337 f.toNatClampNeg).toInt) ∧ yG (rk_pt h 316 39 (.int (1 : Int32))) ∧ o = (none, rk_pt h 316 39 (.int (1 : Int32)))) ∨
    (¬ (c.toInt < 300) ∧ ¬ c.toInt = 508 ∧ ¬ (400 ≤ c.toInt) ∧ 1 ≤ (gi h 337 f.toNatClampNeg).toInt ∧ yG (rk_pt (rk_pt h 337 f.toNatClampNeg (.int ((gi h 337 f.toNatClampNeg) - (1 : Int32)))) 320 (((((16 : Int32) * (gi h 316 21)) + c) - (300 : Int32)).toNatClampNeg) (.int (gi h 338 ((((20 : Int32) * f) + ((gi h 337 f.toNatClampNeg) - (1 : Int32))).toNatClampNeg)))) ∧ o = (none, rk_pt (rk_pt h 337 f.toNatClampNeg (.int ((gi h 337 f.toNatClampNeg) - (1 : Int32)))) 320 (((((16 : Int32) * (gi h 316 21)) + c) - (300 : Int32)).toNatClampNeg) (.int (gi h 338 ((((20 : Int32) * f) + ((gi h 337 f.toNatClampNeg) - (1 : Int32))).toNatClampNeg))))) ∨
    (¬ (c.toInt < 300) ∧ ¬ c.toInt = 508 ∧ ¬ (400 ≤ c.toInt) ∧ ¬ (1 ≤ (gi h 337 f.toNatClampNeg).toInt) ∧ yG (rk_pt h 316 39 (.int (1 : Int32))) ∧ o = (none, rk_pt h 316 39 (.int (1 : Int32)))) ∨
    (¬ (c.toInt < 300) ∧ c.toInt = 508 ∧ 0 ≤ (gi h 337 f.toNatClampNeg).toInt ∧ ∃ m, m < n + 1 ∧ yG h ∧ rk_ex m d rm_X8_step 296 [(2, .int c), (1, .int f), (0, .ref 316)] [.int (c - (500 : Int32)), .int f, .ref 316] h = some o) ∨
    (¬ (c.toInt < 300) ∧ c.toInt = 508 ∧ ¬ (0 ≤ (gi h 337 f.toNatClampNeg).toInt) ∧ yG (rk_pt h 316 39 (.int (1 : Int32))) ∧ o = (none, rk_pt h 316 39 (.int (1 : Int32)))) := by
  obtain ⟨m1, hm2, E, hG⟩ := E_go (pc' := 87) (lv' := [(2, .int c), (1, .int f), (0, .ref 316)]) (st' := [.int c, .int (gi h 337 f.toNatClampNeg)]) (h' := h) 5 rfl E hG
  obtain ⟨m3, d4, o5, hm7, E6, F6⟩ := E_call (ar := ([.int c], [.int (gi h 337 f.toNatClampNeg)])) rfl rfl rfl rfl rfl rfl E
  replace E6 : rk_ex m3 d4 rm_X8_needs 0 [(0, .int c)] [] h = some o5 := E6
  obtain ⟨m8, hm9, E6, hG⟩ := E_go (pc' := 4) (lv' := [(0, .int c)]) (st' := [.int (300 : Int32), .int c]) (h' := h) 2 rfl E6 hG
  rcases E_if2 (tg := 14) rfl rfl E6 with ⟨hc, m10, hm11, E6⟩ | ⟨hc, m12, hm13, E6⟩
  ·
    have c14 : c.toInt < 300 := hc
    clear hc
    obtain ⟨m15, hm16, E6, hG⟩ := E_go (pc' := 52) (lv' := [(0, .int c)]) (st' := [.int (0 : Int32)]) (h' := h) 2 rfl E6 hG
    have ho17 := E_reti rfl E6
    subst ho17
    have E : rk_ex m3 d rm_X8_step 90 [(2, .int c), (1, .int f), (0, .ref 316)] [.int (0 : Int32), .int (gi h 337 f.toNatClampNeg)] h = some o := F6
    rcases E_if2 (tg := 101) rfl rfl E with ⟨hc, m18, hm19, E⟩ | ⟨hc, m20, hm21, E⟩
    ·
      have c22 : 0 ≤ (gi h 337 f.toNatClampNeg).toInt := hc
      clear hc
      obtain ⟨m23, hm24, E, hG⟩ := E_go (pc' := 104) (lv' := [(2, .int c), (1, .int f), (0, .ref 316)]) (st' := [.int (100 : Int32), .int c]) (h' := h) 2 rfl E hG
      rcases E_if2 (tg := 116) rfl rfl E with ⟨hc, m25, hm26, E⟩ | ⟨hc, m27, hm28, E⟩
      ·
        have c29 : 100 ≤ c.toInt := hc
        clear hc
        obtain ⟨m30, hm31, E, hG⟩ := E_go (pc' := 120) (lv' := [(2, .int c), (1, .int f), (0, .ref 316)]) (st' := [.int (200 : Int32), .int c]) (h' := h) 2 rfl E hG
        rcases E_if2 (tg := 159) rfl rfl E with ⟨hc, m32, hm33, E⟩ | ⟨hc, m34, hm35, E⟩
        ·
          have c36 : 200 ≤ c.toInt := hc
          clear hc
          obtain ⟨m37, hm38, E, hG⟩ := E_go (pc' := 163) (lv' := [(2, .int c), (1, .int f), (0, .ref 316)]) (st' := [.int (300 : Int32), .int c]) (h' := h) 2 rfl E hG
          rcases E_if2 (tg := 208) rfl rfl E with ⟨hc, m39, hm40, E⟩ | ⟨hc, m41, hm42, E⟩
          · exact absurd (show 300 ≤ c.toInt from hc) (by omega)
          ·
            clear hc
            obtain ⟨m43, hm44, E, hG⟩ := E_go (pc' := 202) (lv' := [(2, .int c), (1, .int f), (0, .ref 316)]) (st' := [.int (gi (rk_pt h 341 f.toNatClampNeg (.int ((gi h 341 f.toNatClampNeg) ||| ((1 : Int32) <<< ((c - (200 : Int32)) &&& 31))))) 320 (((((16 : Int32) * (gi (rk_pt h 341 f.toNatClampNeg (.int ((gi h 341 f.toNatClampNeg) ||| ((1 : Int32) <<< ((c - (200 : Int32)) &&& 31))))) 316 21)) + c) - (200 : Int32)).toNatClampNeg)), .int f, .ref 316]) (h' := rk_pt h 341 f.toNatClampNeg (.int ((gi h 341 f.toNatClampNeg) ||| ((1 : Int32) <<< ((c - (200 : Int32)) &&& 31))))) 25 rfl E hG
            try simp only [gi_x (a := 341) (a' := 316) (by decide), gi_x (a := 341) (a' := 320) (by decide)] at E hG
            exact Or.inl ⟨c14, c22, c29, c36, _, (by omega), hG, E⟩
        ·
          have c45 : ¬ (200 ≤ c.toInt) := hc
          clear hc
          obtain ⟨m46, hm47, E, hG⟩ := E_go (pc' := 153) (lv' := [(2, .int c), (1, .int f), (0, .ref 316)]) (st' := [.int (gi (rk_pt h 340 f.toNatClampNeg (.int ((gi h 340 f.toNatClampNeg) ||| ((1 : Int32) <<< ((c - (100 : Int32)) &&& 31))))) 336 (((((3 : Int32) * f) + c) - (100 : Int32)).toNatClampNeg)), .int f, .ref 316]) (h' := rk_pt h 340 f.toNatClampNeg (.int ((gi h 340 f.toNatClampNeg) ||| ((1 : Int32) <<< ((c - (100 : Int32)) &&& 31))))) 24 rfl E hG
          try simp only [gi_x (a := 340) (a' := 336) (by decide)] at E hG
          exact Or.inr (Or.inl ⟨c14, c22, c29, c45, _, (by omega), hG, E⟩)
      ·
        have c48 : ¬ (100 ≤ c.toInt) := hc
        clear hc
        obtain ⟨m49, hm50, E, hG⟩ := E_go (pc' := 110) (lv' := [(2, .int c), (1, .int f), (0, .ref 316)]) (st' := [.int c, .int f, .ref 316]) (h' := h) 3 rfl E hG
        exact Or.inr (Or.inr (Or.inl ⟨c14, c22, c48, _, (by omega), hG, E⟩))
    ·
      have c51 : ¬ (0 ≤ (gi h 337 f.toNatClampNeg).toInt) := hc
      clear hc
      obtain ⟨m52, hm53, E, hG⟩ := E_go (pc' := 95) (lv' := [(2, .int c), (1, .int f), (0, .ref 316)]) (st' := [.int (1 : Int32), .ref 316]) (h' := h) 2 rfl E hG
      obtain ⟨m54, d55, o56, hm58, E57, F57⟩ := E_call (ar := ([.ref 316, .int (1 : Int32)], [])) rfl rfl rfl rfl rfl rfl E
      replace E57 : rk_ex m54 d55 rm_X8_refuse 0 [(0, .ref 316), (1, .int (1 : Int32))] [] h = some o56 := E57
      obtain ⟨m59, hm60, E57, hG⟩ := E_go (pc' := 5) (lv' := [(0, .ref 316), (1, .int (1 : Int32))]) (st' := []) (h' := rk_pt h 316 39 (.int (1 : Int32))) 3 rfl E57 hG
      have ho61 := E_retv rfl E57
      subst ho61
      have E : rk_ex m54 d rm_X8_step 98 [(2, .int c), (1, .int f), (0, .ref 316)] [] (rk_pt h 316 39 (.int (1 : Int32))) = some o := F57
      obtain ⟨m62, hm63, E, hG⟩ := E_go (pc' := 384) (lv' := [(2, .int c), (1, .int f), (0, .ref 316)]) (st' := []) (h' := rk_pt h 316 39 (.int (1 : Int32))) 1 rfl E hG
      have ho64 := E_retv rfl E
      exact Or.inr (Or.inr (Or.inr (Or.inl ⟨c14, c51, hG, ho64⟩)))
  ·
    have c65 : ¬ (c.toInt < 300) := hc
    clear hc
    obtain ⟨m66, hm67, E6, hG⟩ := E_go (pc' := 11) (lv' := [(0, .int c)]) (st' := [.int (508 : Int32), .int c]) (h' := h) 2 rfl E6 hG
    rcases E_if2 (tg := 18) rfl rfl E6 with ⟨hc, m68, hm69, E6⟩ | ⟨hc, m70, hm71, E6⟩
    ·
      have c72 : ¬ c.toInt = 508 := hc
      clear hc
      obtain ⟨m73, hm74, E6, hG⟩ := E_go (pc' := 22) (lv' := [(0, .int c)]) (st' := [.int (400 : Int32), .int c]) (h' := h) 2 rfl E6 hG
      rcases E_if2 (tg := 29) rfl rfl E6 with ⟨hc, m75, hm76, E6⟩ | ⟨hc, m77, hm78, E6⟩
      ·
        have c79 : 400 ≤ c.toInt := hc
        clear hc
        obtain ⟨m80, hm81, E6, hG⟩ := E_go (pc' := 33) (lv' := [(0, .int c)]) (st' := [.int (500 : Int32), .int c]) (h' := h) 2 rfl E6 hG
        rcases E_if2 (tg := 40) rfl rfl E6 with ⟨hc, m82, hm83, E6⟩ | ⟨hc, m84, hm85, E6⟩
        ·
          have c86 : 500 ≤ c.toInt := hc
          clear hc
          obtain ⟨m87, hm88, E6, hG⟩ := E_go (pc' := 44) (lv' := [(0, .int c)]) (st' := [.int (506 : Int32), .int c]) (h' := h) 2 rfl E6 hG
          rcases E_if2 (tg := 51) rfl rfl E6 with ⟨hc, m89, hm90, E6⟩ | ⟨hc, m91, hm92, E6⟩
          ·
            have c93 : 506 ≤ c.toInt := hc
            clear hc
            obtain ⟨m94, hm95, E6, hG⟩ := E_go (pc' := 52) (lv' := [(0, .int c)]) (st' := [.int (1 : Int32)]) (h' := h) 1 rfl E6 hG
            have ho96 := E_reti rfl E6
            subst ho96
            have E : rk_ex m3 d rm_X8_step 90 [(2, .int c), (1, .int f), (0, .ref 316)] [.int (1 : Int32), .int (gi h 337 f.toNatClampNeg)] h = some o := F6
            rcases E_if2 (tg := 101) rfl rfl E with ⟨hc, m97, hm98, E⟩ | ⟨hc, m99, hm100, E⟩
            ·
              have c101 : 1 ≤ (gi h 337 f.toNatClampNeg).toInt := hc
              clear hc
              obtain ⟨m102, hm103, E, hG⟩ := E_go (pc' := 104) (lv' := [(2, .int c), (1, .int f), (0, .ref 316)]) (st' := [.int (100 : Int32), .int c]) (h' := h) 2 rfl E hG
              rcases E_if2 (tg := 116) rfl rfl E with ⟨hc, m104, hm105, E⟩ | ⟨hc, m106, hm107, E⟩
              ·
                clear hc
                obtain ⟨m108, hm109, E, hG⟩ := E_go (pc' := 120) (lv' := [(2, .int c), (1, .int f), (0, .ref 316)]) (st' := [.int (200 : Int32), .int c]) (h' := h) 2 rfl E hG
                rcases E_if2 (tg := 159) rfl rfl E with ⟨hc, m110, hm111, E⟩ | ⟨hc, m112, hm113, E⟩
                ·
                  clear hc
                  obtain ⟨m114, hm115, E, hG⟩ := E_go (pc' := 163) (lv' := [(2, .int c), (1, .int f), (0, .ref 316)]) (st' := [.int (300 : Int32), .int c]) (h' := h) 2 rfl E hG
                  rcases E_if2 (tg := 208) rfl rfl E with ⟨hc, m116, hm117, E⟩ | ⟨hc, m118, hm119, E⟩
                  ·
                    clear hc
                    obtain ⟨m120, hm121, E, hG⟩ := E_go (pc' := 212) (lv' := [(2, .int c), (1, .int f), (0, .ref 316)]) (st' := [.int (400 : Int32), .int c]) (h' := h) 2 rfl E hG
                    rcases E_if2 (tg := 262) rfl rfl E with ⟨hc, m122, hm123, E⟩ | ⟨hc, m124, hm125, E⟩
                    ·
                      clear hc
                      obtain ⟨m126, hm127, E, hG⟩ := E_go (pc' := 266) (lv' := [(2, .int c), (1, .int f), (0, .ref 316)]) (st' := [.int (500 : Int32), .int c]) (h' := h) 2 rfl E hG
                      rcases E_if2 (tg := 282) rfl rfl E with ⟨hc, m128, hm129, E⟩ | ⟨hc, m130, hm131, E⟩
                      ·
                        clear hc
                        obtain ⟨m132, hm133, E, hG⟩ := E_go (pc' := 286) (lv' := [(2, .int c), (1, .int f), (0, .ref 316)]) (st' := [.int (600 : Int32), .int c]) (h' := h) 2 rfl E hG
                        rcases E_if2 (tg := 302) rfl rfl E with ⟨hc, m134, hm135, E⟩ | ⟨hc, m136, hm137, E⟩
                        ·
                          have c138 : 600 ≤ c.toInt := hc
                          clear hc
                          exact Or.inr (Or.inr (Or.inr (Or.inr (Or.inl ⟨c65, c72, c79, c86, c93, c101, c138, _, (by omega), hG, E⟩))))
                        ·
                          have c140 : ¬ (600 ≤ c.toInt) := hc
                          clear hc
                          obtain ⟨m141, hm142, E, hG⟩ := E_go (pc' := 296) (lv' := [(2, .int c), (1, .int f), (0, .ref 316)]) (st' := [.int (c - (500 : Int32)), .int f, .ref 316]) (h' := h) 5 rfl E hG
                          exact Or.inr (Or.inr (Or.inr (Or.inr (Or.inr (Or.inl ⟨c65, c72, c79, c86, c93, c101, c140, _, (by omega), hG, E⟩)))))
                      · exact absurd (show ¬ (500 ≤ c.toInt) from hc) (by omega)
                    · exact absurd (show ¬ (400 ≤ c.toInt) from hc) (by omega)
                  · exact absurd (show ¬ (300 ≤ c.toInt) from hc) (by omega)
                · exact absurd (show ¬ (200 ≤ c.toInt) from hc) (by omega)
              · exact absurd (show ¬ (100 ≤ c.toInt) from hc) (by omega)
            ·
              have c143 : ¬ (1 ≤ (gi h 337 f.toNatClampNeg).toInt) := hc
              clear hc
              obtain ⟨m144, hm145, E, hG⟩ := E_go (pc' := 95) (lv' := [(2, .int c), (1, .int f), (0, .ref 316)]) (st' := [.int (1 : Int32), .ref 316]) (h' := h) 2 rfl E hG
              obtain ⟨m146, d147, o148, hm150, E149, F149⟩ := E_call (ar := ([.ref 316, .int (1 : Int32)], [])) rfl rfl rfl rfl rfl rfl E
              replace E149 : rk_ex m146 d147 rm_X8_refuse 0 [(0, .ref 316), (1, .int (1 : Int32))] [] h = some o148 := E149
              obtain ⟨m151, hm152, E149, hG⟩ := E_go (pc' := 5) (lv' := [(0, .ref 316), (1, .int (1 : Int32))]) (st' := []) (h' := rk_pt h 316 39 (.int (1 : Int32))) 3 rfl E149 hG
              have ho153 := E_retv rfl E149
              subst ho153
              have E : rk_ex m146 d rm_X8_step 98 [(2, .int c), (1, .int f), (0, .ref 316)] [] (rk_pt h 316 39 (.int (1 : Int32))) = some o := F149
              obtain ⟨m154, hm155, E, hG⟩ := E_go (pc' := 384) (lv' := [(2, .int c), (1, .int f), (0, .ref 316)]) (st' := []) (h' := rk_pt h 316 39 (.int (1 : Int32))) 1 rfl E hG
              have ho156 := E_retv rfl E
              exact Or.inr (Or.inr (Or.inr (Or.inr (Or.inr (Or.inr (Or.inl ⟨c65, c72, c79, c86, c93, c143, hG, ho156⟩))))))
          ·
            have c157 : ¬ (506 ≤ c.toInt) := hc
            clear hc
            obtain ⟨m158, hm159, E6, hG⟩ := E_go (pc' := 52) (lv' := [(0, .int c)]) (st' := [.int (2 : Int32)]) (h' := h) 2 rfl E6 hG
            have ho160 := E_reti rfl E6
            subst ho160
            have E : rk_ex m3 d rm_X8_step 90 [(2, .int c), (1, .int f), (0, .ref 316)] [.int (2 : Int32), .int (gi h 337 f.toNatClampNeg)] h = some o := F6
            rcases E_if2 (tg := 101) rfl rfl E with ⟨hc, m161, hm162, E⟩ | ⟨hc, m163, hm164, E⟩
            ·
              have c165 : 2 ≤ (gi h 337 f.toNatClampNeg).toInt := hc
              clear hc
              obtain ⟨m166, hm167, E, hG⟩ := E_go (pc' := 104) (lv' := [(2, .int c), (1, .int f), (0, .ref 316)]) (st' := [.int (100 : Int32), .int c]) (h' := h) 2 rfl E hG
              rcases E_if2 (tg := 116) rfl rfl E with ⟨hc, m168, hm169, E⟩ | ⟨hc, m170, hm171, E⟩
              ·
                clear hc
                obtain ⟨m172, hm173, E, hG⟩ := E_go (pc' := 120) (lv' := [(2, .int c), (1, .int f), (0, .ref 316)]) (st' := [.int (200 : Int32), .int c]) (h' := h) 2 rfl E hG
                rcases E_if2 (tg := 159) rfl rfl E with ⟨hc, m174, hm175, E⟩ | ⟨hc, m176, hm177, E⟩
                ·
                  clear hc
                  obtain ⟨m178, hm179, E, hG⟩ := E_go (pc' := 163) (lv' := [(2, .int c), (1, .int f), (0, .ref 316)]) (st' := [.int (300 : Int32), .int c]) (h' := h) 2 rfl E hG
                  rcases E_if2 (tg := 208) rfl rfl E with ⟨hc, m180, hm181, E⟩ | ⟨hc, m182, hm183, E⟩
                  ·
                    clear hc
                    obtain ⟨m184, hm185, E, hG⟩ := E_go (pc' := 212) (lv' := [(2, .int c), (1, .int f), (0, .ref 316)]) (st' := [.int (400 : Int32), .int c]) (h' := h) 2 rfl E hG
                    rcases E_if2 (tg := 262) rfl rfl E with ⟨hc, m186, hm187, E⟩ | ⟨hc, m188, hm189, E⟩
                    ·
                      clear hc
                      obtain ⟨m190, hm191, E, hG⟩ := E_go (pc' := 266) (lv' := [(2, .int c), (1, .int f), (0, .ref 316)]) (st' := [.int (500 : Int32), .int c]) (h' := h) 2 rfl E hG
                      rcases E_if2 (tg := 282) rfl rfl E with ⟨hc, m192, hm193, E⟩ | ⟨hc, m194, hm195, E⟩
                      ·
                        clear hc
                        obtain ⟨m196, hm197, E, hG⟩ := E_go (pc' := 286) (lv' := [(2, .int c), (1, .int f), (0, .ref 316)]) (st' := [.int (600 : Int32), .int c]) (h' := h) 2 rfl E hG
                        rcases E_if2 (tg := 302) rfl rfl E with ⟨hc, m198, hm199, E⟩ | ⟨hc, m200, hm201, E⟩
                        · exact absurd (show 600 ≤ c.toInt from hc) (by omega)
                        ·
                          clear hc
                          obtain ⟨m202, hm203, E, hG⟩ := E_go (pc' := 296) (lv' := [(2, .int c), (1, .int f), (0, .ref 316)]) (st' := [.int (c - (500 : Int32)), .int f, .ref 316]) (h' := h) 5 rfl E hG
                          exact Or.inr (Or.inr (Or.inr (Or.inr (Or.inr (Or.inr (Or.inr (Or.inl ⟨c65, c72, c79, c86, c157, c165, _, (by omega), hG, E⟩)))))))
                      · exact absurd (show ¬ (500 ≤ c.toInt) from hc) (by omega)
                    · exact absurd (show ¬ (400 ≤ c.toInt) from hc) (by omega)
                  · exact absurd (show ¬ (300 ≤ c.toInt) from hc) (by omega)
                · exact absurd (show ¬ (200 ≤ c.toInt) from hc) (by omega)
              · exact absurd (show ¬ (100 ≤ c.toInt) from hc) (by omega)
            ·
              have c204 : ¬ (2 ≤ (gi h 337 f.toNatClampNeg).toInt) := hc
              clear hc
              obtain ⟨m205, hm206, E, hG⟩ := E_go (pc' := 95) (lv' := [(2, .int c), (1, .int f), (0, .ref 316)]) (st' := [.int (1 : Int32), .ref 316]) (h' := h) 2 rfl E hG
              obtain ⟨m207, d208, o209, hm211, E210, F210⟩ := E_call (ar := ([.ref 316, .int (1 : Int32)], [])) rfl rfl rfl rfl rfl rfl E
              replace E210 : rk_ex m207 d208 rm_X8_refuse 0 [(0, .ref 316), (1, .int (1 : Int32))] [] h = some o209 := E210
              obtain ⟨m212, hm213, E210, hG⟩ := E_go (pc' := 5) (lv' := [(0, .ref 316), (1, .int (1 : Int32))]) (st' := []) (h' := rk_pt h 316 39 (.int (1 : Int32))) 3 rfl E210 hG
              have ho214 := E_retv rfl E210
              subst ho214
              have E : rk_ex m207 d rm_X8_step 98 [(2, .int c), (1, .int f), (0, .ref 316)] [] (rk_pt h 316 39 (.int (1 : Int32))) = some o := F210
              obtain ⟨m215, hm216, E, hG⟩ := E_go (pc' := 384) (lv' := [(2, .int c), (1, .int f), (0, .ref 316)]) (st' := []) (h' := rk_pt h 316 39 (.int (1 : Int32))) 1 rfl E hG
              have ho217 := E_retv rfl E
              exact Or.inr (Or.inr (Or.inr (Or.inr (Or.inr (Or.inr (Or.inr (Or.inr (Or.inl ⟨c65, c72, c79, c86, c157, c204, hG, ho217⟩))))))))
        ·
          have c218 : ¬ (500 ≤ c.toInt) := hc
          clear hc
          obtain ⟨m219, hm220, E6, hG⟩ := E_go (pc' := 52) (lv' := [(0, .int c)]) (st' := [.int (3 : Int32)]) (h' := h) 2 rfl E6 hG
          have ho221 := E_reti rfl E6
          subst ho221
          have E : rk_ex m3 d rm_X8_step 90 [(2, .int c), (1, .int f), (0, .ref 316)] [.int (3 : Int32), .int (gi h 337 f.toNatClampNeg)] h = some o := F6
          rcases E_if2 (tg := 101) rfl rfl E with ⟨hc, m222, hm223, E⟩ | ⟨hc, m224, hm225, E⟩
          ·
            have c226 : 3 ≤ (gi h 337 f.toNatClampNeg).toInt := hc
            clear hc
            obtain ⟨m227, hm228, E, hG⟩ := E_go (pc' := 104) (lv' := [(2, .int c), (1, .int f), (0, .ref 316)]) (st' := [.int (100 : Int32), .int c]) (h' := h) 2 rfl E hG
            rcases E_if2 (tg := 116) rfl rfl E with ⟨hc, m229, hm230, E⟩ | ⟨hc, m231, hm232, E⟩
            ·
              clear hc
              obtain ⟨m233, hm234, E, hG⟩ := E_go (pc' := 120) (lv' := [(2, .int c), (1, .int f), (0, .ref 316)]) (st' := [.int (200 : Int32), .int c]) (h' := h) 2 rfl E hG
              rcases E_if2 (tg := 159) rfl rfl E with ⟨hc, m235, hm236, E⟩ | ⟨hc, m237, hm238, E⟩
              ·
                clear hc
                obtain ⟨m239, hm240, E, hG⟩ := E_go (pc' := 163) (lv' := [(2, .int c), (1, .int f), (0, .ref 316)]) (st' := [.int (300 : Int32), .int c]) (h' := h) 2 rfl E hG
                rcases E_if2 (tg := 208) rfl rfl E with ⟨hc, m241, hm242, E⟩ | ⟨hc, m243, hm244, E⟩
                ·
                  clear hc
                  obtain ⟨m245, hm246, E, hG⟩ := E_go (pc' := 212) (lv' := [(2, .int c), (1, .int f), (0, .ref 316)]) (st' := [.int (400 : Int32), .int c]) (h' := h) 2 rfl E hG
                  rcases E_if2 (tg := 262) rfl rfl E with ⟨hc, m247, hm248, E⟩ | ⟨hc, m249, hm250, E⟩
                  ·
                    clear hc
                    obtain ⟨m251, hm252, E, hG⟩ := E_go (pc' := 266) (lv' := [(2, .int c), (1, .int f), (0, .ref 316)]) (st' := [.int (500 : Int32), .int c]) (h' := h) 2 rfl E hG
                    rcases E_if2 (tg := 282) rfl rfl E with ⟨hc, m253, hm254, E⟩ | ⟨hc, m255, hm256, E⟩
                    · exact absurd (show 500 ≤ c.toInt from hc) (by omega)
                    ·
                      clear hc
                      obtain ⟨m257, hm258, E, hG⟩ := E_go (pc' := 276) (lv' := [(2, .int c), (1, .int f), (0, .ref 316)]) (st' := [.int (c - (400 : Int32)), .int f, .ref 316]) (h' := h) 5 rfl E hG
                      exact Or.inr (Or.inr (Or.inr (Or.inr (Or.inr (Or.inr (Or.inr (Or.inr (Or.inr (Or.inl ⟨c65, c72, c79, c218, c226, _, (by omega), hG, E⟩)))))))))
                  · exact absurd (show ¬ (400 ≤ c.toInt) from hc) (by omega)
                · exact absurd (show ¬ (300 ≤ c.toInt) from hc) (by omega)
              · exact absurd (show ¬ (200 ≤ c.toInt) from hc) (by omega)
            · exact absurd (show ¬ (100 ≤ c.toInt) from hc) (by omega)
          ·
            have c259 : ¬ (3 ≤ (gi h 337 f.toNatClampNeg).toInt) := hc
            clear hc
            obtain ⟨m260, hm261, E, hG⟩ := E_go (pc' := 95) (lv' := [(2, .int c), (1, .int f), (0, .ref 316)]) (st' := [.int (1 : Int32), .ref 316]) (h' := h) 2 rfl E hG
            obtain ⟨m262, d263, o264, hm266, E265, F265⟩ := E_call (ar := ([.ref 316, .int (1 : Int32)], [])) rfl rfl rfl rfl rfl rfl E
            replace E265 : rk_ex m262 d263 rm_X8_refuse 0 [(0, .ref 316), (1, .int (1 : Int32))] [] h = some o264 := E265
            obtain ⟨m267, hm268, E265, hG⟩ := E_go (pc' := 5) (lv' := [(0, .ref 316), (1, .int (1 : Int32))]) (st' := []) (h' := rk_pt h 316 39 (.int (1 : Int32))) 3 rfl E265 hG
            have ho269 := E_retv rfl E265
            subst ho269
            have E : rk_ex m262 d rm_X8_step 98 [(2, .int c), (1, .int f), (0, .ref 316)] [] (rk_pt h 316 39 (.int (1 : Int32))) = some o := F265
            obtain ⟨m270, hm271, E, hG⟩ := E_go (pc' := 384) (lv' := [(2, .int c), (1, .int f), (0, .ref 316)]) (st' := []) (h' := rk_pt h 316 39 (.int (1 : Int32))) 1 rfl E hG
            have ho272 := E_retv rfl E
            exact Or.inr (Or.inr (Or.inr (Or.inr (Or.inr (Or.inr (Or.inr (Or.inr (Or.inr (Or.inr (Or.inl ⟨c65, c72, c79, c218, c259, hG, ho272⟩))))))))))
      ·
        have c273 : ¬ (400 ≤ c.toInt) := hc
        clear hc
        obtain ⟨m274, hm275, E6, hG⟩ := E_go (pc' := 52) (lv' := [(0, .int c)]) (st' := [.int (1 : Int32)]) (h' := h) 2 rfl E6 hG
        have ho276 := E_reti rfl E6
        subst ho276
        have E : rk_ex m3 d rm_X8_step 90 [(2, .int c), (1, .int f), (0, .ref 316)] [.int (1 : Int32), .int (gi h 337 f.toNatClampNeg)] h = some o := F6
        rcases E_if2 (tg := 101) rfl rfl E with ⟨hc, m277, hm278, E⟩ | ⟨hc, m279, hm280, E⟩
        ·
          have c281 : 1 ≤ (gi h 337 f.toNatClampNeg).toInt := hc
          clear hc
          obtain ⟨m282, hm283, E, hG⟩ := E_go (pc' := 104) (lv' := [(2, .int c), (1, .int f), (0, .ref 316)]) (st' := [.int (100 : Int32), .int c]) (h' := h) 2 rfl E hG
          rcases E_if2 (tg := 116) rfl rfl E with ⟨hc, m284, hm285, E⟩ | ⟨hc, m286, hm287, E⟩
          ·
            clear hc
            obtain ⟨m288, hm289, E, hG⟩ := E_go (pc' := 120) (lv' := [(2, .int c), (1, .int f), (0, .ref 316)]) (st' := [.int (200 : Int32), .int c]) (h' := h) 2 rfl E hG
            rcases E_if2 (tg := 159) rfl rfl E with ⟨hc, m290, hm291, E⟩ | ⟨hc, m292, hm293, E⟩
            ·
              clear hc
              obtain ⟨m294, hm295, E, hG⟩ := E_go (pc' := 163) (lv' := [(2, .int c), (1, .int f), (0, .ref 316)]) (st' := [.int (300 : Int32), .int c]) (h' := h) 2 rfl E hG
              rcases E_if2 (tg := 208) rfl rfl E with ⟨hc, m296, hm297, E⟩ | ⟨hc, m298, hm299, E⟩
              ·
                clear hc
                obtain ⟨m300, hm301, E, hG⟩ := E_go (pc' := 212) (lv' := [(2, .int c), (1, .int f), (0, .ref 316)]) (st' := [.int (400 : Int32), .int c]) (h' := h) 2 rfl E hG
                rcases E_if2 (tg := 262) rfl rfl E with ⟨hc, m302, hm303, E⟩ | ⟨hc, m304, hm305, E⟩
                · exact absurd (show 400 ≤ c.toInt from hc) (by omega)
                ·
                  clear hc
                  obtain ⟨m306, hm307, E, hG⟩ := E_go (pc' := 384) (lv' := [(2, .int c), (1, .int f), (0, .ref 316)]) (st' := []) (h' := rk_pt (rk_pt h 337 f.toNatClampNeg (.int ((gi h 337 f.toNatClampNeg) - (1 : Int32)))) 320 (((((16 : Int32) * (gi (rk_pt h 337 f.toNatClampNeg (.int ((gi h 337 f.toNatClampNeg) - (1 : Int32)))) 316 21)) + c) - (300 : Int32)).toNatClampNeg) (.int (gi (rk_pt h 337 f.toNatClampNeg (.int ((gi h 337 f.toNatClampNeg) - (1 : Int32)))) 338 ((((20 : Int32) * f) + (gi (rk_pt h 337 f.toNatClampNeg (.int ((gi h 337 f.toNatClampNeg) - (1 : Int32)))) 337 f.toNatClampNeg)).toNatClampNeg)))) 31 rfl E hG
                  try simp only [gi_x (a := 337) (a' := 316) (by decide), gi_s, yE_pt, e337, gi_x (a := 337) (a' := 338) (by decide)] at E hG
                  have ho308 := E_retv rfl E
                  exact Or.inr (Or.inr (Or.inr (Or.inr (Or.inr (Or.inr (Or.inr (Or.inr (Or.inr (Or.inr (Or.inr (Or.inl ⟨c65, c72, c273, c281, hG, ho308⟩)))))))))))
              · exact absurd (show ¬ (300 ≤ c.toInt) from hc) (by omega)
            · exact absurd (show ¬ (200 ≤ c.toInt) from hc) (by omega)
          · exact absurd (show ¬ (100 ≤ c.toInt) from hc) (by omega)
        ·
          have c309 : ¬ (1 ≤ (gi h 337 f.toNatClampNeg).toInt) := hc
          clear hc
          obtain ⟨m310, hm311, E, hG⟩ := E_go (pc' := 95) (lv' := [(2, .int c), (1, .int f), (0, .ref 316)]) (st' := [.int (1 : Int32), .ref 316]) (h' := h) 2 rfl E hG
          obtain ⟨m312, d313, o314, hm316, E315, F315⟩ := E_call (ar := ([.ref 316, .int (1 : Int32)], [])) rfl rfl rfl rfl rfl rfl E
          replace E315 : rk_ex m312 d313 rm_X8_refuse 0 [(0, .ref 316), (1, .int (1 : Int32))] [] h = some o314 := E315
          obtain ⟨m317, hm318, E315, hG⟩ := E_go (pc' := 5) (lv' := [(0, .ref 316), (1, .int (1 : Int32))]) (st' := []) (h' := rk_pt h 316 39 (.int (1 : Int32))) 3 rfl E315 hG
          have ho319 := E_retv rfl E315
          subst ho319
          have E : rk_ex m312 d rm_X8_step 98 [(2, .int c), (1, .int f), (0, .ref 316)] [] (rk_pt h 316 39 (.int (1 : Int32))) = some o := F315
          obtain ⟨m320, hm321, E, hG⟩ := E_go (pc' := 384) (lv' := [(2, .int c), (1, .int f), (0, .ref 316)]) (st' := []) (h' := rk_pt h 316 39 (.int (1 : Int32))) 1 rfl E hG
          have ho322 := E_retv rfl E
          exact Or.inr (Or.inr (Or.inr (Or.inr (Or.inr (Or.inr (Or.inr (Or.inr (Or.inr (Or.inr (Or.inr (Or.inr (Or.inl ⟨c65, c72, c273, c309, hG, ho322⟩))))))))))))
    ·
      have c323 : c.toInt = 508 := Decidable.not_not.mp hc
      clear hc
      obtain ⟨m324, hm325, E6, hG⟩ := E_go (pc' := 52) (lv' := [(0, .int c)]) (st' := [.int (0 : Int32)]) (h' := h) 2 rfl E6 hG
      have ho326 := E_reti rfl E6
      subst ho326
      have E : rk_ex m3 d rm_X8_step 90 [(2, .int c), (1, .int f), (0, .ref 316)] [.int (0 : Int32), .int (gi h 337 f.toNatClampNeg)] h = some o := F6
      rcases E_if2 (tg := 101) rfl rfl E with ⟨hc, m327, hm328, E⟩ | ⟨hc, m329, hm330, E⟩
      ·
        have c331 : 0 ≤ (gi h 337 f.toNatClampNeg).toInt := hc
        clear hc
        obtain ⟨m332, hm333, E, hG⟩ := E_go (pc' := 104) (lv' := [(2, .int c), (1, .int f), (0, .ref 316)]) (st' := [.int (100 : Int32), .int c]) (h' := h) 2 rfl E hG
        rcases E_if2 (tg := 116) rfl rfl E with ⟨hc, m334, hm335, E⟩ | ⟨hc, m336, hm337, E⟩
        ·
          clear hc
          obtain ⟨m338, hm339, E, hG⟩ := E_go (pc' := 120) (lv' := [(2, .int c), (1, .int f), (0, .ref 316)]) (st' := [.int (200 : Int32), .int c]) (h' := h) 2 rfl E hG
          rcases E_if2 (tg := 159) rfl rfl E with ⟨hc, m340, hm341, E⟩ | ⟨hc, m342, hm343, E⟩
          ·
            clear hc
            obtain ⟨m344, hm345, E, hG⟩ := E_go (pc' := 163) (lv' := [(2, .int c), (1, .int f), (0, .ref 316)]) (st' := [.int (300 : Int32), .int c]) (h' := h) 2 rfl E hG
            rcases E_if2 (tg := 208) rfl rfl E with ⟨hc, m346, hm347, E⟩ | ⟨hc, m348, hm349, E⟩
            ·
              clear hc
              obtain ⟨m350, hm351, E, hG⟩ := E_go (pc' := 212) (lv' := [(2, .int c), (1, .int f), (0, .ref 316)]) (st' := [.int (400 : Int32), .int c]) (h' := h) 2 rfl E hG
              rcases E_if2 (tg := 262) rfl rfl E with ⟨hc, m352, hm353, E⟩ | ⟨hc, m354, hm355, E⟩
              ·
                clear hc
                obtain ⟨m356, hm357, E, hG⟩ := E_go (pc' := 266) (lv' := [(2, .int c), (1, .int f), (0, .ref 316)]) (st' := [.int (500 : Int32), .int c]) (h' := h) 2 rfl E hG
                rcases E_if2 (tg := 282) rfl rfl E with ⟨hc, m358, hm359, E⟩ | ⟨hc, m360, hm361, E⟩
                ·
                  clear hc
                  obtain ⟨m362, hm363, E, hG⟩ := E_go (pc' := 286) (lv' := [(2, .int c), (1, .int f), (0, .ref 316)]) (st' := [.int (600 : Int32), .int c]) (h' := h) 2 rfl E hG
                  rcases E_if2 (tg := 302) rfl rfl E with ⟨hc, m364, hm365, E⟩ | ⟨hc, m366, hm367, E⟩
                  · exact absurd (show 600 ≤ c.toInt from hc) (by omega)
                  ·
                    clear hc
                    obtain ⟨m368, hm369, E, hG⟩ := E_go (pc' := 296) (lv' := [(2, .int c), (1, .int f), (0, .ref 316)]) (st' := [.int (c - (500 : Int32)), .int f, .ref 316]) (h' := h) 5 rfl E hG
                    exact Or.inr (Or.inr (Or.inr (Or.inr (Or.inr (Or.inr (Or.inr (Or.inr (Or.inr (Or.inr (Or.inr (Or.inr (Or.inr (Or.inl ⟨c65, c323, c331, _, (by omega), hG, E⟩)))))))))))))
                · exact absurd (show ¬ (500 ≤ c.toInt) from hc) (by omega)
              · exact absurd (show ¬ (400 ≤ c.toInt) from hc) (by omega)
            · exact absurd (show ¬ (300 ≤ c.toInt) from hc) (by omega)
          · exact absurd (show ¬ (200 ≤ c.toInt) from hc) (by omega)
        · exact absurd (show ¬ (100 ≤ c.toInt) from hc) (by omega)
      ·
        have c370 : ¬ (0 ≤ (gi h 337 f.toNatClampNeg).toInt) := hc
        clear hc
        obtain ⟨m371, hm372, E, hG⟩ := E_go (pc' := 95) (lv' := [(2, .int c), (1, .int f), (0, .ref 316)]) (st' := [.int (1 : Int32), .ref 316]) (h' := h) 2 rfl E hG
        obtain ⟨m373, d374, o375, hm377, E376, F376⟩ := E_call (ar := ([.ref 316, .int (1 : Int32)], [])) rfl rfl rfl rfl rfl rfl E
        replace E376 : rk_ex m373 d374 rm_X8_refuse 0 [(0, .ref 316), (1, .int (1 : Int32))] [] h = some o375 := E376
        obtain ⟨m378, hm379, E376, hG⟩ := E_go (pc' := 5) (lv' := [(0, .ref 316), (1, .int (1 : Int32))]) (st' := []) (h' := rk_pt h 316 39 (.int (1 : Int32))) 3 rfl E376 hG
        have ho380 := E_retv rfl E376
        subst ho380
        have E : rk_ex m373 d rm_X8_step 98 [(2, .int c), (1, .int f), (0, .ref 316)] [] (rk_pt h 316 39 (.int (1 : Int32))) = some o := F376
        obtain ⟨m381, hm382, E, hG⟩ := E_go (pc' := 384) (lv' := [(2, .int c), (1, .int f), (0, .ref 316)]) (st' := []) (h' := rk_pt h 316 39 (.int (1 : Int32))) 1 rfl E hG
        have ho383 := E_retv rfl E
        exact Or.inr (Or.inr (Or.inr (Or.inr (Or.inr (Or.inr (Or.inr (Or.inr (Or.inr (Or.inr (Or.inr (Or.inr (Or.inr (Or.inr ⟨c65, c323, c370, hG, ho383⟩)))))))))))))
set_option maxRecDepth 100000 in
set_option maxHeartbeats 4000000 in
theorem ym_sr113 {n d : Nat} {h : rk_S} {o : Option Value × rk_S} {c f : Int32} (hG : yG h) (E : rk_ex n d rm_X8_step 113 [(2, .int c), (1, .int f), (0, .ref 316)] [] h = some o) :
    (yG h ∧ o = (none, h)) := by
  obtain ⟨m1, hm2, E, hG⟩ := E_go (pc' := 384) (lv' := [(2, .int c), (1, .int f), (0, .ref 316)]) (st' := []) (h' := h) 1 rfl E hG
  have ho3 := E_retv rfl E
  exact ⟨hG, ho3⟩
set_option maxRecDepth 100000 in
set_option maxHeartbeats 4000000 in
theorem ym_sr156 {n d : Nat} {h : rk_S} {o : Option Value × rk_S} {c f : Int32} (hG : yG h) (E : rk_ex n d rm_X8_step 156 [(2, .int c), (1, .int f), (0, .ref 316)] [] h = some o) :
    (yG h ∧ o = (none, h)) := by
  obtain ⟨m1, hm2, E, hG⟩ := E_go (pc' := 384) (lv' := [(2, .int c), (1, .int f), (0, .ref 316)]) (st' := []) (h' := h) 1 rfl E hG
  have ho3 := E_retv rfl E
  exact ⟨hG, ho3⟩
set_option maxRecDepth 100000 in
set_option maxHeartbeats 4000000 in
theorem ym_sr205 {n d : Nat} {h : rk_S} {o : Option Value × rk_S} {c f : Int32} (hG : yG h) (E : rk_ex n d rm_X8_step 205 [(2, .int c), (1, .int f), (0, .ref 316)] [] h = some o) :
    (yG h ∧ o = (none, h)) := by
  obtain ⟨m1, hm2, E, hG⟩ := E_go (pc' := 384) (lv' := [(2, .int c), (1, .int f), (0, .ref 316)]) (st' := []) (h' := h) 1 rfl E hG
  have ho3 := E_retv rfl E
  exact ⟨hG, ho3⟩
set_option maxRecDepth 100000 in
set_option maxHeartbeats 4000000 in
theorem ym_sr279 {n d : Nat} {h : rk_S} {o : Option Value × rk_S} {c f : Int32} (hG : yG h) (E : rk_ex n d rm_X8_step 279 [(2, .int c), (1, .int f), (0, .ref 316)] [] h = some o) :
    (yG h ∧ o = (none, h)) := by
  obtain ⟨m1, hm2, E, hG⟩ := E_go (pc' := 384) (lv' := [(2, .int c), (1, .int f), (0, .ref 316)]) (st' := []) (h' := h) 1 rfl E hG
  have ho3 := E_retv rfl E
  exact ⟨hG, ho3⟩
set_option maxRecDepth 100000 in
set_option maxHeartbeats 4000000 in
theorem ym_sr299 {n d : Nat} {h : rk_S} {o : Option Value × rk_S} {c f : Int32} (hG : yG h) (E : rk_ex n d rm_X8_step 299 [(2, .int c), (1, .int f), (0, .ref 316)] [] h = some o) :
    (yG h ∧ o = (none, h)) := by
  obtain ⟨m1, hm2, E, hG⟩ := E_go (pc' := 384) (lv' := [(2, .int c), (1, .int f), (0, .ref 316)]) (st' := []) (h' := h) 1 rfl E hG
  have ho3 := E_retv rfl E
  exact ⟨hG, ho3⟩
set_option maxRecDepth 100000 in
set_option maxHeartbeats 4000000 in
theorem ym_sj {n d : Nat} {h : rk_S} {o : Option Value × rk_S} {c f : Int32} (hG : yG h) (e337 : yE 337 f.toNatClampNeg h) (E : rk_ex n d rm_X8_step 302 [(2, .int c), (1, .int f), (0, .ref 316)] [] h = some o) :
    (∃ m, m < n ∧ yG (rk_pt h 337 f.toNatClampNeg (.int ((gi h 337 f.toNatClampNeg) - (1 : Int32)))) ∧ rk_ex m d rm_X8_step 338 [(4, .int (((gi h 335 f.toNatClampNeg) + c) - (600 : Int32))), (3, .int (gi h 317 ((gi h 334 f.toNatClampNeg).toNatClampNeg))), (2, .int c), (1, .int f), (0, .ref 316)] [] (rk_pt h 337 f.toNatClampNeg (.int ((gi h 337 f.toNatClampNeg) - (1 : Int32)))) = some o) := by
  obtain ⟨m1, hm2, E, hG⟩ := E_go (pc' := 338) (lv' := [(4, .int (((gi (rk_pt h 337 f.toNatClampNeg (.int ((gi h 337 f.toNatClampNeg) - (1 : Int32)))) 335 f.toNatClampNeg) + c) - (600 : Int32))), (3, .int (gi (rk_pt h 337 f.toNatClampNeg (.int ((gi h 337 f.toNatClampNeg) - (1 : Int32)))) 317 ((gi (rk_pt h 337 f.toNatClampNeg (.int ((gi h 337 f.toNatClampNeg) - (1 : Int32)))) 334 f.toNatClampNeg).toNatClampNeg))), (2, .int c), (1, .int f), (0, .ref 316)]) (st' := []) (h' := rk_pt h 337 f.toNatClampNeg (.int ((gi h 337 f.toNatClampNeg) - (1 : Int32)))) 25 rfl E hG
  try simp only [gi_x (a := 337) (a' := 334) (by decide), gi_x (a := 337) (a' := 317) (by decide), gi_x (a := 337) (a' := 335) (by decide)] at E hG
  exact ⟨_, (by omega), hG, E⟩
set_option maxRecDepth 100000 in
set_option maxHeartbeats 4000000 in
theorem ym_sk {n d : Nat} {h : rk_S} {o : Option Value × rk_S} {w l c f : Int32} (hG : yG h) (E : rk_ex n d rm_X8_step 338 [(4, .int w), (3, .int l), (2, .int c), (1, .int f), (0, .ref 316)] [] h = some o) :
    ((gi h 338 ((((20 : Int32) * f) + (gi h 337 f.toNatClampNeg)).toNatClampNeg)).toInt = 0 ∧ l.toInt ≤ w.toInt ∧ yG (rk_pt h 335 f.toNatClampNeg (.int l)) ∧ o = (none, rk_pt h 335 f.toNatClampNeg (.int l))) ∨
    ((gi h 338 ((((20 : Int32) * f) + (gi h 337 f.toNatClampNeg)).toNatClampNeg)).toInt = 0 ∧ ¬ (l.toInt ≤ w.toInt) ∧ yG (rk_pt h 335 f.toNatClampNeg (.int w)) ∧ o = (none, rk_pt h 335 f.toNatClampNeg (.int w))) ∨
    (¬ ((gi h 338 ((((20 : Int32) * f) + (gi h 337 f.toNatClampNeg)).toNatClampNeg)).toInt = 0) ∧ yG (rk_pt h 335 f.toNatClampNeg (.int (gi h 335 f.toNatClampNeg))) ∧ o = (none, rk_pt h 335 f.toNatClampNeg (.int (gi h 335 f.toNatClampNeg)))) := by
  obtain ⟨m1, hm2, E, hG⟩ := E_go (pc' := 359) (lv' := [(4, .int w), (3, .int l), (2, .int c), (1, .int f), (0, .ref 316)]) (st' := [.int (gi h 338 ((((20 : Int32) * f) + (gi h 337 f.toNatClampNeg)).toNatClampNeg)), .int f, .ref 335]) (h' := h) 14 rfl E hG
  rcases E_if1 (tg := 371) rfl rfl E with ⟨hc, m3, hm4, E⟩ | ⟨hc, m5, hm6, E⟩
  ·
    have c7 : (gi h 338 ((((20 : Int32) * f) + (gi h 337 f.toNatClampNeg)).toNatClampNeg)).toInt = 0 := hc
    clear hc
    obtain ⟨m8, hm9, E, hG⟩ := E_go (pc' := 374) (lv' := [(4, .int w), (3, .int l), (2, .int c), (1, .int f), (0, .ref 316)]) (st' := [.int l, .int w, .int f, .ref 335]) (h' := h) 2 rfl E hG
    rcases E_if2 (tg := 382) rfl rfl E with ⟨hc, m10, hm11, E⟩ | ⟨hc, m12, hm13, E⟩
    ·
      have c14 : l.toInt ≤ w.toInt := hc
      clear hc
      obtain ⟨m15, hm16, E, hG⟩ := E_go (pc' := 384) (lv' := [(4, .int w), (3, .int l), (2, .int c), (1, .int f), (0, .ref 316)]) (st' := []) (h' := rk_pt h 335 f.toNatClampNeg (.int l)) 2 rfl E hG
      have ho17 := E_retv rfl E
      exact Or.inl ⟨c7, c14, hG, ho17⟩
    ·
      have c18 : ¬ (l.toInt ≤ w.toInt) := hc
      clear hc
      obtain ⟨m19, hm20, E, hG⟩ := E_go (pc' := 384) (lv' := [(4, .int w), (3, .int l), (2, .int c), (1, .int f), (0, .ref 316)]) (st' := []) (h' := rk_pt h 335 f.toNatClampNeg (.int w)) 3 rfl E hG
      have ho21 := E_retv rfl E
      exact Or.inr (Or.inl ⟨c7, c18, hG, ho21⟩)
  ·
    have c22 : ¬ ((gi h 338 ((((20 : Int32) * f) + (gi h 337 f.toNatClampNeg)).toNatClampNeg)).toInt = 0) := hc
    clear hc
    obtain ⟨m23, hm24, E, hG⟩ := E_go (pc' := 384) (lv' := [(4, .int w), (3, .int l), (2, .int c), (1, .int f), (0, .ref 316)]) (st' := []) (h' := rk_pt h 335 f.toNatClampNeg (.int (gi h 335 f.toNatClampNeg))) 6 rfl E hG
    have ho25 := E_retv rfl E
    exact Or.inr (Or.inr ⟨c22, hG, ho25⟩)
set_option maxRecDepth 100000 in
set_option maxHeartbeats 4000000 in
theorem ym_cl {n d : Nat} {h : rk_S} {o : Option Value × rk_S} {f r : Int32} (hG : yG h) (e337 : yE 337 f.toNatClampNeg h) (E : rk_ex n d rm_X8_calls 0 [(0, .ref 316), (1, .int f), (2, .int r)] [] h = some o) :
    (r.toInt < 0 ∧ yG (rk_pt h 316 39 (.int (4 : Int32))) ∧ o = (none, rk_pt h 316 39 (.int (4 : Int32)))) ∨
    (¬ (r.toInt < 0) ∧ ((gi h 316 0) - (1 : Int32)).toInt < r.toInt ∧ yG (rk_pt h 316 39 (.int (4 : Int32))) ∧ o = (none, rk_pt h 316 39 (.int (4 : Int32)))) ∨
    (¬ (r.toInt < 0) ∧ ¬ (((gi h 316 0) - (1 : Int32)).toInt < r.toInt) ∧ ¬ (gi h 316 24).toInt = 12 ∧ ∃ m, m < n + 1 ∧ yG (rk_pt h 337 f.toNatClampNeg (.int ((gi h 337 f.toNatClampNeg) - (3 : Int32)))) ∧ rk_ex m d rm_X8_calls 84 [(3, .int (((20 : Int32) * f) + ((gi h 337 f.toNatClampNeg) - (3 : Int32)))), (0, .ref 316), (1, .int f), (2, .int r)] [.int (gi h 338 (((((20 : Int32) * f) + ((gi h 337 f.toNatClampNeg) - (3 : Int32))) + (2 : Int32)).toNatClampNeg)), .int (gi h 338 (((((20 : Int32) * f) + ((gi h 337 f.toNatClampNeg) - (3 : Int32))) + (1 : Int32)).toNatClampNeg)), .int (gi h 338 ((((20 : Int32) * f) + ((gi h 337 f.toNatClampNeg) - (3 : Int32))).toNatClampNeg)), .int r, .ref 316] (rk_pt h 337 f.toNatClampNeg (.int ((gi h 337 f.toNatClampNeg) - (3 : Int32)))) = some o) ∨
    (¬ (r.toInt < 0) ∧ ¬ (((gi h 316 0) - (1 : Int32)).toInt < r.toInt) ∧ (gi h 316 24).toInt = 12 ∧ yG (rk_pt (rk_pt h 316 39 (.int (4 : Int32))) 316 40 (.int (0 : Int32))) ∧ o = (none, rk_pt (rk_pt h 316 39 (.int (4 : Int32))) 316 40 (.int (0 : Int32)))) := by
  obtain ⟨m1, hm2, E, hG⟩ := E_go (pc' := 2) (lv' := [(0, .ref 316), (1, .int f), (2, .int r)]) (st' := [.int r, .ref 316]) (h' := h) 2 rfl E hG
  obtain ⟨m3, d4, o5, hm7, E6, F6⟩ := E_call (ar := ([.ref 316, .int r], [])) rfl rfl rfl rfl rfl rfl E
  replace E6 : rk_ex m3 d4 rm_X8_isRoutine 0 [(0, .ref 316), (1, .int r)] [] h = some o5 := E6
  obtain ⟨m8, hm9, E6, hG⟩ := E_go (pc' := 8) (lv' := [(0, .ref 316), (1, .int r)]) (st' := [.int ((gi h 316 0) - (1 : Int32)), .int (0 : Int32), .int r]) (h' := h) 6 rfl E6 hG
  obtain ⟨m10, d11, o12, hm14, E13, F13⟩ := E_call (ar := ([.int r, .int (0 : Int32), .int ((gi h 316 0) - (1 : Int32))], [])) rfl rfl rfl rfl rfl rfl E6
  replace E13 : rk_ex m10 d11 rm_X8_in 0 [(0, .int r), (1, .int (0 : Int32)), (2, .int ((gi h 316 0) - (1 : Int32)))] [] h = some o12 := E13
  obtain ⟨m15, hm16, E13, hG⟩ := E_go (pc' := 2) (lv' := [(0, .int r), (1, .int (0 : Int32)), (2, .int ((gi h 316 0) - (1 : Int32)))]) (st' := [.int (0 : Int32), .int r]) (h' := h) 2 rfl E13 hG
  rcases E_if2 (tg := 14) rfl rfl E13 with ⟨hc, m17, hm18, E13⟩ | ⟨hc, m19, hm20, E13⟩
  ·
    have c21 : r.toInt < 0 := hc
    clear hc
    obtain ⟨m22, hm23, E13, hG⟩ := E_go (pc' := 15) (lv' := [(0, .int r), (1, .int (0 : Int32)), (2, .int ((gi h 316 0) - (1 : Int32)))]) (st' := [.int (0 : Int32)]) (h' := h) 1 rfl E13 hG
    have ho24 := E_reti rfl E13
    subst ho24
    have E6 : rk_ex m10 d4 rm_X8_isRoutine 11 [(0, .ref 316), (1, .int r)] [.int (0 : Int32)] h = some o5 := F13
    have ho25 := E_reti rfl E6
    subst ho25
    have E : rk_ex m3 d rm_X8_calls 5 [(0, .ref 316), (1, .int f), (2, .int r)] [.int (0 : Int32)] h = some o := F6
    rcases E_if1 (tg := 16) rfl rfl E with ⟨hc, m26, hm27, E⟩ | ⟨hc, m28, hm29, E⟩
    · exact absurd (show ¬ (0 : Int) = 0 from hc) (by decide)
    ·
      clear hc
      obtain ⟨m30, hm31, E, hG⟩ := E_go (pc' := 10) (lv' := [(0, .ref 316), (1, .int f), (2, .int r)]) (st' := [.int (4 : Int32), .ref 316]) (h' := h) 2 rfl E hG
      obtain ⟨m32, d33, o34, hm36, E35, F35⟩ := E_call (ar := ([.ref 316, .int (4 : Int32)], [])) rfl rfl rfl rfl rfl rfl E
      replace E35 : rk_ex m32 d33 rm_X8_refuse 0 [(0, .ref 316), (1, .int (4 : Int32))] [] h = some o34 := E35
      obtain ⟨m37, hm38, E35, hG⟩ := E_go (pc' := 5) (lv' := [(0, .ref 316), (1, .int (4 : Int32))]) (st' := []) (h' := rk_pt h 316 39 (.int (4 : Int32))) 3 rfl E35 hG
      have ho39 := E_retv rfl E35
      subst ho39
      have E : rk_ex m32 d rm_X8_calls 13 [(0, .ref 316), (1, .int f), (2, .int r)] [] (rk_pt h 316 39 (.int (4 : Int32))) = some o := F35
      obtain ⟨m40, hm41, E, hG⟩ := E_go (pc' := 87) (lv' := [(0, .ref 316), (1, .int f), (2, .int r)]) (st' := []) (h' := rk_pt h 316 39 (.int (4 : Int32))) 1 rfl E hG
      have ho42 := E_retv rfl E
      exact Or.inl ⟨c21, hG, ho42⟩
  ·
    have c43 : ¬ (r.toInt < 0) := hc
    clear hc
    obtain ⟨m44, hm45, E13, hG⟩ := E_go (pc' := 7) (lv' := [(0, .int r), (1, .int (0 : Int32)), (2, .int ((gi h 316 0) - (1 : Int32)))]) (st' := [.int ((gi h 316 0) - (1 : Int32)), .int r]) (h' := h) 2 rfl E13 hG
    rcases E_if2 (tg := 14) rfl rfl E13 with ⟨hc, m46, hm47, E13⟩ | ⟨hc, m48, hm49, E13⟩
    ·
      have c50 : ((gi h 316 0) - (1 : Int32)).toInt < r.toInt := hc
      clear hc
      obtain ⟨m51, hm52, E13, hG⟩ := E_go (pc' := 15) (lv' := [(0, .int r), (1, .int (0 : Int32)), (2, .int ((gi h 316 0) - (1 : Int32)))]) (st' := [.int (0 : Int32)]) (h' := h) 1 rfl E13 hG
      have ho53 := E_reti rfl E13
      subst ho53
      have E6 : rk_ex m10 d4 rm_X8_isRoutine 11 [(0, .ref 316), (1, .int r)] [.int (0 : Int32)] h = some o5 := F13
      have ho54 := E_reti rfl E6
      subst ho54
      have E : rk_ex m3 d rm_X8_calls 5 [(0, .ref 316), (1, .int f), (2, .int r)] [.int (0 : Int32)] h = some o := F6
      rcases E_if1 (tg := 16) rfl rfl E with ⟨hc, m55, hm56, E⟩ | ⟨hc, m57, hm58, E⟩
      · exact absurd (show ¬ (0 : Int) = 0 from hc) (by decide)
      ·
        clear hc
        obtain ⟨m59, hm60, E, hG⟩ := E_go (pc' := 10) (lv' := [(0, .ref 316), (1, .int f), (2, .int r)]) (st' := [.int (4 : Int32), .ref 316]) (h' := h) 2 rfl E hG
        obtain ⟨m61, d62, o63, hm65, E64, F64⟩ := E_call (ar := ([.ref 316, .int (4 : Int32)], [])) rfl rfl rfl rfl rfl rfl E
        replace E64 : rk_ex m61 d62 rm_X8_refuse 0 [(0, .ref 316), (1, .int (4 : Int32))] [] h = some o63 := E64
        obtain ⟨m66, hm67, E64, hG⟩ := E_go (pc' := 5) (lv' := [(0, .ref 316), (1, .int (4 : Int32))]) (st' := []) (h' := rk_pt h 316 39 (.int (4 : Int32))) 3 rfl E64 hG
        have ho68 := E_retv rfl E64
        subst ho68
        have E : rk_ex m61 d rm_X8_calls 13 [(0, .ref 316), (1, .int f), (2, .int r)] [] (rk_pt h 316 39 (.int (4 : Int32))) = some o := F64
        obtain ⟨m69, hm70, E, hG⟩ := E_go (pc' := 87) (lv' := [(0, .ref 316), (1, .int f), (2, .int r)]) (st' := []) (h' := rk_pt h 316 39 (.int (4 : Int32))) 1 rfl E hG
        have ho71 := E_retv rfl E
        exact Or.inr (Or.inl ⟨c43, c50, hG, ho71⟩)
    ·
      have c72 : ¬ (((gi h 316 0) - (1 : Int32)).toInt < r.toInt) := hc
      clear hc
      obtain ⟨m73, hm74, E13, hG⟩ := E_go (pc' := 15) (lv' := [(0, .int r), (1, .int (0 : Int32)), (2, .int ((gi h 316 0) - (1 : Int32)))]) (st' := [.int (1 : Int32)]) (h' := h) 2 rfl E13 hG
      have ho75 := E_reti rfl E13
      subst ho75
      have E6 : rk_ex m10 d4 rm_X8_isRoutine 11 [(0, .ref 316), (1, .int r)] [.int (1 : Int32)] h = some o5 := F13
      have ho76 := E_reti rfl E6
      subst ho76
      have E : rk_ex m3 d rm_X8_calls 5 [(0, .ref 316), (1, .int f), (2, .int r)] [.int (1 : Int32)] h = some o := F6
      rcases E_if1 (tg := 16) rfl rfl E with ⟨hc, m77, hm78, E⟩ | ⟨hc, m79, hm80, E⟩
      ·
        clear hc
        obtain ⟨m81, hm82, E, hG⟩ := E_go (pc' := 22) (lv' := [(0, .ref 316), (1, .int f), (2, .int r)]) (st' := [.int (12 : Int32), .int (gi h 316 24)]) (h' := h) 3 rfl E hG
        rcases E_if2 (tg := 38) rfl rfl E with ⟨hc, m83, hm84, E⟩ | ⟨hc, m85, hm86, E⟩
        ·
          have c87 : ¬ (gi h 316 24).toInt = 12 := hc
          clear hc
          obtain ⟨m88, hm89, E, hG⟩ := E_go (pc' := 84) (lv' := [(3, .int (((20 : Int32) * f) + (gi (rk_pt h 337 f.toNatClampNeg (.int ((gi h 337 f.toNatClampNeg) - (3 : Int32)))) 337 f.toNatClampNeg))), (0, .ref 316), (1, .int f), (2, .int r)]) (st' := [.int (gi (rk_pt h 337 f.toNatClampNeg (.int ((gi h 337 f.toNatClampNeg) - (3 : Int32)))) 338 (((((20 : Int32) * f) + (gi (rk_pt h 337 f.toNatClampNeg (.int ((gi h 337 f.toNatClampNeg) - (3 : Int32)))) 337 f.toNatClampNeg)) + (2 : Int32)).toNatClampNeg)), .int (gi (rk_pt h 337 f.toNatClampNeg (.int ((gi h 337 f.toNatClampNeg) - (3 : Int32)))) 338 (((((20 : Int32) * f) + (gi (rk_pt h 337 f.toNatClampNeg (.int ((gi h 337 f.toNatClampNeg) - (3 : Int32)))) 337 f.toNatClampNeg)) + (1 : Int32)).toNatClampNeg)), .int (gi (rk_pt h 337 f.toNatClampNeg (.int ((gi h 337 f.toNatClampNeg) - (3 : Int32)))) 338 ((((20 : Int32) * f) + (gi (rk_pt h 337 f.toNatClampNeg (.int ((gi h 337 f.toNatClampNeg) - (3 : Int32)))) 337 f.toNatClampNeg)).toNatClampNeg)), .int r, .ref 316]) (h' := rk_pt h 337 f.toNatClampNeg (.int ((gi h 337 f.toNatClampNeg) - (3 : Int32)))) 35 rfl E hG
          try simp only [gi_s, yE_pt, e337, gi_x (a := 337) (a' := 338) (by decide)] at E hG
          exact Or.inr (Or.inr (Or.inl ⟨c43, c72, c87, _, (by omega), hG, E⟩))
        ·
          have c90 : (gi h 316 24).toInt = 12 := Decidable.not_not.mp hc
          clear hc
          obtain ⟨m91, hm92, E, hG⟩ := E_go (pc' := 27) (lv' := [(0, .ref 316), (1, .int f), (2, .int r)]) (st' := [.int (4 : Int32), .ref 316]) (h' := h) 2 rfl E hG
          obtain ⟨m93, d94, o95, hm97, E96, F96⟩ := E_call (ar := ([.ref 316, .int (4 : Int32)], [])) rfl rfl rfl rfl rfl rfl E
          replace E96 : rk_ex m93 d94 rm_X8_refuse 0 [(0, .ref 316), (1, .int (4 : Int32))] [] h = some o95 := E96
          obtain ⟨m98, hm99, E96, hG⟩ := E_go (pc' := 5) (lv' := [(0, .ref 316), (1, .int (4 : Int32))]) (st' := []) (h' := rk_pt h 316 39 (.int (4 : Int32))) 3 rfl E96 hG
          have ho100 := E_retv rfl E96
          subst ho100
          have E : rk_ex m93 d rm_X8_calls 30 [(0, .ref 316), (1, .int f), (2, .int r)] [] (rk_pt h 316 39 (.int (4 : Int32))) = some o := F96
          obtain ⟨m101, hm102, E, hG⟩ := E_go (pc' := 87) (lv' := [(0, .ref 316), (1, .int f), (2, .int r)]) (st' := []) (h' := rk_pt (rk_pt h 316 39 (.int (4 : Int32))) 316 40 (.int (0 : Int32))) 4 rfl E hG
          have ho103 := E_retv rfl E
          exact Or.inr (Or.inr (Or.inr ⟨c43, c72, c90, hG, ho103⟩))
      · exact absurd (show ¬ (¬ (1 : Int) = 0) from hc) (by decide)
set_option maxRecDepth 100000 in
set_option maxHeartbeats 4000000 in
theorem ym_cl1 {n d : Nat} {h : rk_S} {o : Option Value × rk_S} {f r : Int32} (hG : yG h) (E : rk_ex n d rm_X8_calls 87 [(0, .ref 316), (1, .int f), (2, .int r)] [] h = some o) :
    (yG h ∧ o = (none, h)) := by
  have ho1 := E_retv rfl E
  exact ⟨hG, ho1⟩
set_option maxRecDepth 100000 in
set_option maxHeartbeats 4000000 in
theorem ym_cl2 {n d : Nat} {h : rk_S} {o : Option Value × rk_S} {f r w : Int32} (hG : yG h) (E : rk_ex n d rm_X8_calls 87 [(3, .int w), (0, .ref 316), (1, .int f), (2, .int r)] [] h = some o) :
    (yG h ∧ o = (none, h)) := by
  have ho1 := E_retv rfl E
  exact ⟨hG, ho1⟩
set_option maxRecDepth 100000 in
set_option maxHeartbeats 4000000 in
theorem ym_ac {n d : Nat} {h : rk_S} {o : Option Value × rk_S} {f x : Int32} (hG : yG h) (e322 : yE 321 (gi h 316 21).toNatClampNeg h) (E : rk_ex n d rm_X8_acts 0 [(0, .ref 316), (1, .int f), (2, .int x)] [] h = some o) :
    (¬ x.toInt = 8 ∧ ¬ x.toInt = 7 ∧ ¬ x.toInt = 6 ∧ ¬ x.toInt = 3 ∧ ¬ x.toInt = 0 ∧ ¬ x.toInt = 1 ∧ ¬ x.toInt = 2 ∧ ¬ x.toInt = 4 ∧ ¬ (gi h 338 ((((((20 : Int32) * f) + (gi h 337 f.toNatClampNeg)) - (1 : Int32)) - (1 : Int32)).toNatClampNeg)).toInt = (gi h 338 (((((20 : Int32) * f) + (gi h 337 f.toNatClampNeg)) - (1 : Int32)).toNatClampNeg)).toInt ∧ yG (rk_pt (rk_pt h 337 f.toNatClampNeg (.int ((gi h 337 f.toNatClampNeg) - (1 : Int32)))) 338 ((((((20 : Int32) * f) + (gi h 337 f.toNatClampNeg)) - (1 : Int32)) - (1 : Int32)).toNatClampNeg) (.int (0 : Int32))) ∧ o = (none, rk_pt (rk_pt h 337 f.toNatClampNeg (.int ((gi h 337 f.toNatClampNeg) - (1 : Int32)))) 338 ((((((20 : Int32) * f) + (gi h 337 f.toNatClampNeg)) - (1 : Int32)) - (1 : Int32)).toNatClampNeg) (.int (0 : Int32)))) ∨
    (¬ x.toInt = 8 ∧ ¬ x.toInt = 7 ∧ ¬ x.toInt = 6 ∧ ¬ x.toInt = 3 ∧ ¬ x.toInt = 0 ∧ ¬ x.toInt = 1 ∧ ¬ x.toInt = 2 ∧ ¬ x.toInt = 4 ∧ (gi h 338 ((((((20 : Int32) * f) + (gi h 337 f.toNatClampNeg)) - (1 : Int32)) - (1 : Int32)).toNatClampNeg)).toInt = (gi h 338 (((((20 : Int32) * f) + (gi h 337 f.toNatClampNeg)) - (1 : Int32)).toNatClampNeg)).toInt ∧ yG (rk_pt (rk_pt h 337 f.toNatClampNeg (.int ((gi h 337 f.toNatClampNeg) - (1 : Int32)))) 338 ((((((20 : Int32) * f) + (gi h 337 f.toNatClampNeg)) - (1 : Int32)) - (1 : Int32)).toNatClampNeg) (.int (1 : Int32))) ∧ o = (none, rk_pt (rk_pt h 337 f.toNatClampNeg (.int ((gi h 337 f.toNatClampNeg) - (1 : Int32)))) 338 ((((((20 : Int32) * f) + (gi h 337 f.toNatClampNeg)) - (1 : Int32)) - (1 : Int32)).toNatClampNeg) (.int (1 : Int32)))) ∨
    (¬ x.toInt = 8 ∧ ¬ x.toInt = 7 ∧ ¬ x.toInt = 6 ∧ ¬ x.toInt = 3 ∧ ¬ x.toInt = 0 ∧ ¬ x.toInt = 1 ∧ ¬ x.toInt = 2 ∧ x.toInt = 4 ∧ (gi h 338 (((((20 : Int32) * f) + (gi h 337 f.toNatClampNeg)) - (1 : Int32)).toNatClampNeg)).toInt ≤ (gi h 338 ((((((20 : Int32) * f) + (gi h 337 f.toNatClampNeg)) - (1 : Int32)) - (1 : Int32)).toNatClampNeg)).toInt ∧ yG (rk_pt (rk_pt h 337 f.toNatClampNeg (.int ((gi h 337 f.toNatClampNeg) - (1 : Int32)))) 338 ((((((20 : Int32) * f) + (gi h 337 f.toNatClampNeg)) - (1 : Int32)) - (1 : Int32)).toNatClampNeg) (.int (0 : Int32))) ∧ o = (none, rk_pt (rk_pt h 337 f.toNatClampNeg (.int ((gi h 337 f.toNatClampNeg) - (1 : Int32)))) 338 ((((((20 : Int32) * f) + (gi h 337 f.toNatClampNeg)) - (1 : Int32)) - (1 : Int32)).toNatClampNeg) (.int (0 : Int32)))) ∨
    (¬ x.toInt = 8 ∧ ¬ x.toInt = 7 ∧ ¬ x.toInt = 6 ∧ ¬ x.toInt = 3 ∧ ¬ x.toInt = 0 ∧ ¬ x.toInt = 1 ∧ ¬ x.toInt = 2 ∧ x.toInt = 4 ∧ ¬ ((gi h 338 (((((20 : Int32) * f) + (gi h 337 f.toNatClampNeg)) - (1 : Int32)).toNatClampNeg)).toInt ≤ (gi h 338 ((((((20 : Int32) * f) + (gi h 337 f.toNatClampNeg)) - (1 : Int32)) - (1 : Int32)).toNatClampNeg)).toInt) ∧ yG (rk_pt (rk_pt h 337 f.toNatClampNeg (.int ((gi h 337 f.toNatClampNeg) - (1 : Int32)))) 338 ((((((20 : Int32) * f) + (gi h 337 f.toNatClampNeg)) - (1 : Int32)) - (1 : Int32)).toNatClampNeg) (.int (1 : Int32))) ∧ o = (none, rk_pt (rk_pt h 337 f.toNatClampNeg (.int ((gi h 337 f.toNatClampNeg) - (1 : Int32)))) 338 ((((((20 : Int32) * f) + (gi h 337 f.toNatClampNeg)) - (1 : Int32)) - (1 : Int32)).toNatClampNeg) (.int (1 : Int32)))) ∨
    (¬ x.toInt = 8 ∧ ¬ x.toInt = 7 ∧ ¬ x.toInt = 6 ∧ ¬ x.toInt = 3 ∧ ¬ x.toInt = 0 ∧ ¬ x.toInt = 1 ∧ x.toInt = 2 ∧ yG (rk_pt (rk_pt h 337 f.toNatClampNeg (.int ((gi h 337 f.toNatClampNeg) - (1 : Int32)))) 338 ((((((20 : Int32) * f) + (gi h 337 f.toNatClampNeg)) - (1 : Int32)) - (1 : Int32)).toNatClampNeg) (.int ((gi h 338 ((((((20 : Int32) * f) + (gi h 337 f.toNatClampNeg)) - (1 : Int32)) - (1 : Int32)).toNatClampNeg)) * (gi h 338 (((((20 : Int32) * f) + (gi h 337 f.toNatClampNeg)) - (1 : Int32)).toNatClampNeg))))) ∧ o = (none, rk_pt (rk_pt h 337 f.toNatClampNeg (.int ((gi h 337 f.toNatClampNeg) - (1 : Int32)))) 338 ((((((20 : Int32) * f) + (gi h 337 f.toNatClampNeg)) - (1 : Int32)) - (1 : Int32)).toNatClampNeg) (.int ((gi h 338 ((((((20 : Int32) * f) + (gi h 337 f.toNatClampNeg)) - (1 : Int32)) - (1 : Int32)).toNatClampNeg)) * (gi h 338 (((((20 : Int32) * f) + (gi h 337 f.toNatClampNeg)) - (1 : Int32)).toNatClampNeg)))))) ∨
    (¬ x.toInt = 8 ∧ ¬ x.toInt = 7 ∧ ¬ x.toInt = 6 ∧ ¬ x.toInt = 3 ∧ ¬ x.toInt = 0 ∧ x.toInt = 1 ∧ yG (rk_pt (rk_pt h 337 f.toNatClampNeg (.int ((gi h 337 f.toNatClampNeg) - (1 : Int32)))) 338 ((((((20 : Int32) * f) + (gi h 337 f.toNatClampNeg)) - (1 : Int32)) - (1 : Int32)).toNatClampNeg) (.int ((gi h 338 ((((((20 : Int32) * f) + (gi h 337 f.toNatClampNeg)) - (1 : Int32)) - (1 : Int32)).toNatClampNeg)) - (gi h 338 (((((20 : Int32) * f) + (gi h 337 f.toNatClampNeg)) - (1 : Int32)).toNatClampNeg))))) ∧ o = (none, rk_pt (rk_pt h 337 f.toNatClampNeg (.int ((gi h 337 f.toNatClampNeg) - (1 : Int32)))) 338 ((((((20 : Int32) * f) + (gi h 337 f.toNatClampNeg)) - (1 : Int32)) - (1 : Int32)).toNatClampNeg) (.int ((gi h 338 ((((((20 : Int32) * f) + (gi h 337 f.toNatClampNeg)) - (1 : Int32)) - (1 : Int32)).toNatClampNeg)) - (gi h 338 (((((20 : Int32) * f) + (gi h 337 f.toNatClampNeg)) - (1 : Int32)).toNatClampNeg)))))) ∨
    (¬ x.toInt = 8 ∧ ¬ x.toInt = 7 ∧ ¬ x.toInt = 6 ∧ ¬ x.toInt = 3 ∧ x.toInt = 0 ∧ yG (rk_pt (rk_pt h 337 f.toNatClampNeg (.int ((gi h 337 f.toNatClampNeg) - (1 : Int32)))) 338 ((((((20 : Int32) * f) + (gi h 337 f.toNatClampNeg)) - (1 : Int32)) - (1 : Int32)).toNatClampNeg) (.int ((gi h 338 ((((((20 : Int32) * f) + (gi h 337 f.toNatClampNeg)) - (1 : Int32)) - (1 : Int32)).toNatClampNeg)) + (gi h 338 (((((20 : Int32) * f) + (gi h 337 f.toNatClampNeg)) - (1 : Int32)).toNatClampNeg))))) ∧ o = (none, rk_pt (rk_pt h 337 f.toNatClampNeg (.int ((gi h 337 f.toNatClampNeg) - (1 : Int32)))) 338 ((((((20 : Int32) * f) + (gi h 337 f.toNatClampNeg)) - (1 : Int32)) - (1 : Int32)).toNatClampNeg) (.int ((gi h 338 ((((((20 : Int32) * f) + (gi h 337 f.toNatClampNeg)) - (1 : Int32)) - (1 : Int32)).toNatClampNeg)) + (gi h 338 (((((20 : Int32) * f) + (gi h 337 f.toNatClampNeg)) - (1 : Int32)).toNatClampNeg)))))) ∨
    (¬ x.toInt = 8 ∧ ¬ x.toInt = 7 ∧ ¬ x.toInt = 6 ∧ x.toInt = 3 ∧ ¬ (gi h 338 (((((20 : Int32) * f) + (gi h 337 f.toNatClampNeg)) - (1 : Int32)).toNatClampNeg)).toInt = 0 ∧ yG (rk_pt (rk_pt h 337 f.toNatClampNeg (.int ((gi h 337 f.toNatClampNeg) - (1 : Int32)))) 338 ((((((20 : Int32) * f) + (gi h 337 f.toNatClampNeg)) - (1 : Int32)) - (1 : Int32)).toNatClampNeg) (.int ((gi h 338 ((((((20 : Int32) * f) + (gi h 337 f.toNatClampNeg)) - (1 : Int32)) - (1 : Int32)).toNatClampNeg)) / (gi h 338 (((((20 : Int32) * f) + (gi h 337 f.toNatClampNeg)) - (1 : Int32)).toNatClampNeg))))) ∧ o = (none, rk_pt (rk_pt h 337 f.toNatClampNeg (.int ((gi h 337 f.toNatClampNeg) - (1 : Int32)))) 338 ((((((20 : Int32) * f) + (gi h 337 f.toNatClampNeg)) - (1 : Int32)) - (1 : Int32)).toNatClampNeg) (.int ((gi h 338 ((((((20 : Int32) * f) + (gi h 337 f.toNatClampNeg)) - (1 : Int32)) - (1 : Int32)).toNatClampNeg)) / (gi h 338 (((((20 : Int32) * f) + (gi h 337 f.toNatClampNeg)) - (1 : Int32)).toNatClampNeg)))))) ∨
    (¬ x.toInt = 8 ∧ ¬ x.toInt = 7 ∧ ¬ x.toInt = 6 ∧ x.toInt = 3 ∧ (gi h 338 (((((20 : Int32) * f) + (gi h 337 f.toNatClampNeg)) - (1 : Int32)).toNatClampNeg)).toInt = 0 ∧ yG (rk_pt h 316 39 (.int (3 : Int32))) ∧ o = (none, rk_pt h 316 39 (.int (3 : Int32)))) ∨
    (¬ x.toInt = 8 ∧ ¬ x.toInt = 7 ∧ x.toInt = 6 ∧ yG (rk_pt h 337 f.toNatClampNeg (.int ((gi h 337 f.toNatClampNeg) - (1 : Int32)))) ∧ o = (none, rk_pt h 337 f.toNatClampNeg (.int ((gi h 337 f.toNatClampNeg) - (1 : Int32))))) ∨
    (¬ x.toInt = 8 ∧ x.toInt = 7 ∧ ∃ m, m < n + 1 ∧ yG h ∧ rk_ex m d rm_X8_acts 96 [(3, .int ((((20 : Int32) * f) + (gi h 337 f.toNatClampNeg)) - (1 : Int32))), (0, .ref 316), (1, .int f), (2, .int x)] [.int (gi h 338 (((((20 : Int32) * f) + (gi h 337 f.toNatClampNeg)) - (1 : Int32)).toNatClampNeg)), .int f, .ref 316] h = some o) ∨
    (x.toInt = 8 ∧ ¬ (gi h 337 f.toNatClampNeg).toInt = 20 ∧ ∃ m, m < n + 1 ∧ yG (rk_pt h 321 ((gi h 316 21).toNatClampNeg) (.int (((gi h 321 ((gi h 316 21).toNatClampNeg)) * (69069 : Int32)) + (1 : Int32)))) ∧ rk_ex m d rm_X8_acts 76 [(3, .int ((((20 : Int32) * f) + (gi h 337 f.toNatClampNeg)) - (1 : Int32))), (0, .ref 316), (1, .int f), (2, .int x)] [.int (((gi (rk_pt h 321 ((gi h 316 21).toNatClampNeg) (.int (((gi h 321 ((gi h 316 21).toNatClampNeg)) * (69069 : Int32)) + (1 : Int32)))) 321 ((gi h 316 21).toNatClampNeg)).toUInt32 >>> ((16 : Int32).toUInt32 &&& Int32.toUInt32 31)).toInt32), .int f, .ref 316] (rk_pt h 321 ((gi h 316 21).toNatClampNeg) (.int (((gi h 321 ((gi h 316 21).toNatClampNeg)) * (69069 : Int32)) + (1 : Int32)))) = some o) ∨
    (x.toInt = 8 ∧ (gi h 337 f.toNatClampNeg).toInt = 20 ∧ yG (rk_pt h 316 39 (.int (2 : Int32))) ∧ o = (none, rk_pt h 316 39 (.int (2 : Int32)))) := by
  obtain ⟨m1, hm2, E, hG⟩ := E_go (pc' := 17) (lv' := [(3, .int ((((20 : Int32) * f) + (gi h 337 f.toNatClampNeg)) - (1 : Int32))), (0, .ref 316), (1, .int f), (2, .int x)]) (st' := [.int (8 : Int32), .int x]) (h' := h) 13 rfl E hG
  rcases E_if2 (tg := 82) rfl rfl E with ⟨hc, m3, hm4, E⟩ | ⟨hc, m5, hm6, E⟩
  ·
    have c7 : ¬ x.toInt = 8 := hc
    clear hc
    obtain ⟨m8, hm9, E, hG⟩ := E_go (pc' := 85) (lv' := [(3, .int ((((20 : Int32) * f) + (gi h 337 f.toNatClampNeg)) - (1 : Int32))), (0, .ref 316), (1, .int f), (2, .int x)]) (st' := [.int (7 : Int32), .int x]) (h' := h) 2 rfl E hG
    rcases E_if2 (tg := 102) rfl rfl E with ⟨hc, m10, hm11, E⟩ | ⟨hc, m12, hm13, E⟩
    ·
      have c14 : ¬ x.toInt = 7 := hc
      clear hc
      obtain ⟨m15, hm16, E, hG⟩ := E_go (pc' := 105) (lv' := [(3, .int ((((20 : Int32) * f) + (gi h 337 f.toNatClampNeg)) - (1 : Int32))), (0, .ref 316), (1, .int f), (2, .int x)]) (st' := [.int (6 : Int32), .int x]) (h' := h) 2 rfl E hG
      rcases E_if2 (tg := 121) rfl rfl E with ⟨hc, m17, hm18, E⟩ | ⟨hc, m19, hm20, E⟩
      ·
        have c21 : ¬ x.toInt = 6 := hc
        clear hc
        obtain ⟨m22, hm23, E, hG⟩ := E_go (pc' := 123) (lv' := [(3, .int ((((20 : Int32) * f) + (gi h 337 f.toNatClampNeg)) - (1 : Int32))), (0, .ref 316), (1, .int f), (2, .int x)]) (st' := [.int (3 : Int32), .int x]) (h' := h) 2 rfl E hG
        rcases E_if2 (tg := 143) rfl rfl E with ⟨hc, m24, hm25, E⟩ | ⟨hc, m26, hm27, E⟩
        ·
          have c28 : ¬ x.toInt = 3 := hc
          clear hc
          obtain ⟨m29, hm30, E, hG⟩ := E_go (pc' := 179) (lv' := [(5, .int (gi h 338 (((((20 : Int32) * f) + (gi h 337 f.toNatClampNeg)) - (1 : Int32)).toNatClampNeg))), (4, .int (gi h 338 ((((((20 : Int32) * f) + (gi h 337 f.toNatClampNeg)) - (1 : Int32)) - (1 : Int32)).toNatClampNeg))), (3, .int ((((20 : Int32) * f) + (gi h 337 f.toNatClampNeg)) - (1 : Int32))), (0, .ref 316), (1, .int f), (2, .int x)]) (st' := [.int x, .int (((((20 : Int32) * f) + (gi h 337 f.toNatClampNeg)) - (1 : Int32)) - (1 : Int32)), .ref 338]) (h' := rk_pt h 337 f.toNatClampNeg (.int ((gi h 337 f.toNatClampNeg) - (1 : Int32)))) 26 rfl E hG
          rcases E_if1 (tg := 190) rfl rfl E with ⟨hc, m31, hm32, E⟩ | ⟨hc, m33, hm34, E⟩
          ·
            have c35 : ¬ x.toInt = 0 := hc
            clear hc
            obtain ⟨m36, hm37, E, hG⟩ := E_go (pc' := 192) (lv' := [(5, .int (gi h 338 (((((20 : Int32) * f) + (gi h 337 f.toNatClampNeg)) - (1 : Int32)).toNatClampNeg))), (4, .int (gi h 338 ((((((20 : Int32) * f) + (gi h 337 f.toNatClampNeg)) - (1 : Int32)) - (1 : Int32)).toNatClampNeg))), (3, .int ((((20 : Int32) * f) + (gi h 337 f.toNatClampNeg)) - (1 : Int32))), (0, .ref 316), (1, .int f), (2, .int x)]) (st' := [.int (1 : Int32), .int x, .int (((((20 : Int32) * f) + (gi h 337 f.toNatClampNeg)) - (1 : Int32)) - (1 : Int32)), .ref 338]) (h' := rk_pt h 337 f.toNatClampNeg (.int ((gi h 337 f.toNatClampNeg) - (1 : Int32)))) 2 rfl E hG
            rcases E_if2 (tg := 203) rfl rfl E with ⟨hc, m38, hm39, E⟩ | ⟨hc, m40, hm41, E⟩
            ·
              have c42 : ¬ x.toInt = 1 := hc
              clear hc
              obtain ⟨m43, hm44, E, hG⟩ := E_go (pc' := 205) (lv' := [(5, .int (gi h 338 (((((20 : Int32) * f) + (gi h 337 f.toNatClampNeg)) - (1 : Int32)).toNatClampNeg))), (4, .int (gi h 338 ((((((20 : Int32) * f) + (gi h 337 f.toNatClampNeg)) - (1 : Int32)) - (1 : Int32)).toNatClampNeg))), (3, .int ((((20 : Int32) * f) + (gi h 337 f.toNatClampNeg)) - (1 : Int32))), (0, .ref 316), (1, .int f), (2, .int x)]) (st' := [.int (2 : Int32), .int x, .int (((((20 : Int32) * f) + (gi h 337 f.toNatClampNeg)) - (1 : Int32)) - (1 : Int32)), .ref 338]) (h' := rk_pt h 337 f.toNatClampNeg (.int ((gi h 337 f.toNatClampNeg) - (1 : Int32)))) 2 rfl E hG
              rcases E_if2 (tg := 216) rfl rfl E with ⟨hc, m45, hm46, E⟩ | ⟨hc, m47, hm48, E⟩
              ·
                have c49 : ¬ x.toInt = 2 := hc
                clear hc
                obtain ⟨m50, hm51, E, hG⟩ := E_go (pc' := 218) (lv' := [(5, .int (gi h 338 (((((20 : Int32) * f) + (gi h 337 f.toNatClampNeg)) - (1 : Int32)).toNatClampNeg))), (4, .int (gi h 338 ((((((20 : Int32) * f) + (gi h 337 f.toNatClampNeg)) - (1 : Int32)) - (1 : Int32)).toNatClampNeg))), (3, .int ((((20 : Int32) * f) + (gi h 337 f.toNatClampNeg)) - (1 : Int32))), (0, .ref 316), (1, .int f), (2, .int x)]) (st' := [.int (3 : Int32), .int x, .int (((((20 : Int32) * f) + (gi h 337 f.toNatClampNeg)) - (1 : Int32)) - (1 : Int32)), .ref 338]) (h' := rk_pt h 337 f.toNatClampNeg (.int ((gi h 337 f.toNatClampNeg) - (1 : Int32)))) 2 rfl E hG
                rcases E_if2 (tg := 229) rfl rfl E with ⟨hc, m52, hm53, E⟩ | ⟨hc, m54, hm55, E⟩
                ·
                  clear hc
                  obtain ⟨m56, hm57, E, hG⟩ := E_go (pc' := 231) (lv' := [(5, .int (gi h 338 (((((20 : Int32) * f) + (gi h 337 f.toNatClampNeg)) - (1 : Int32)).toNatClampNeg))), (4, .int (gi h 338 ((((((20 : Int32) * f) + (gi h 337 f.toNatClampNeg)) - (1 : Int32)) - (1 : Int32)).toNatClampNeg))), (3, .int ((((20 : Int32) * f) + (gi h 337 f.toNatClampNeg)) - (1 : Int32))), (0, .ref 316), (1, .int f), (2, .int x)]) (st' := [.int (4 : Int32), .int x, .int (((((20 : Int32) * f) + (gi h 337 f.toNatClampNeg)) - (1 : Int32)) - (1 : Int32)), .ref 338]) (h' := rk_pt h 337 f.toNatClampNeg (.int ((gi h 337 f.toNatClampNeg) - (1 : Int32)))) 2 rfl E hG
                  rcases E_if2 (tg := 249) rfl rfl E with ⟨hc, m58, hm59, E⟩ | ⟨hc, m60, hm61, E⟩
                  ·
                    have c62 : ¬ x.toInt = 4 := hc
                    clear hc
                    obtain ⟨m63, hm64, E, hG⟩ := E_go (pc' := 253) (lv' := [(5, .int (gi h 338 (((((20 : Int32) * f) + (gi h 337 f.toNatClampNeg)) - (1 : Int32)).toNatClampNeg))), (4, .int (gi h 338 ((((((20 : Int32) * f) + (gi h 337 f.toNatClampNeg)) - (1 : Int32)) - (1 : Int32)).toNatClampNeg))), (3, .int ((((20 : Int32) * f) + (gi h 337 f.toNatClampNeg)) - (1 : Int32))), (0, .ref 316), (1, .int f), (2, .int x)]) (st' := [.int (gi h 338 (((((20 : Int32) * f) + (gi h 337 f.toNatClampNeg)) - (1 : Int32)).toNatClampNeg)), .int (gi h 338 ((((((20 : Int32) * f) + (gi h 337 f.toNatClampNeg)) - (1 : Int32)) - (1 : Int32)).toNatClampNeg)), .int (((((20 : Int32) * f) + (gi h 337 f.toNatClampNeg)) - (1 : Int32)) - (1 : Int32)), .ref 338]) (h' := rk_pt h 337 f.toNatClampNeg (.int ((gi h 337 f.toNatClampNeg) - (1 : Int32)))) 2 rfl E hG
                    rcases E_if2 (tg := 260) rfl rfl E with ⟨hc, m65, hm66, E⟩ | ⟨hc, m67, hm68, E⟩
                    ·
                      have c69 : ¬ (gi h 338 ((((((20 : Int32) * f) + (gi h 337 f.toNatClampNeg)) - (1 : Int32)) - (1 : Int32)).toNatClampNeg)).toInt = (gi h 338 (((((20 : Int32) * f) + (gi h 337 f.toNatClampNeg)) - (1 : Int32)).toNatClampNeg)).toInt := hc
                      clear hc
                      obtain ⟨m70, hm71, E, hG⟩ := E_go (pc' := 262) (lv' := [(5, .int (gi h 338 (((((20 : Int32) * f) + (gi h 337 f.toNatClampNeg)) - (1 : Int32)).toNatClampNeg))), (4, .int (gi h 338 ((((((20 : Int32) * f) + (gi h 337 f.toNatClampNeg)) - (1 : Int32)) - (1 : Int32)).toNatClampNeg))), (3, .int ((((20 : Int32) * f) + (gi h 337 f.toNatClampNeg)) - (1 : Int32))), (0, .ref 316), (1, .int f), (2, .int x)]) (st' := []) (h' := rk_pt (rk_pt h 337 f.toNatClampNeg (.int ((gi h 337 f.toNatClampNeg) - (1 : Int32)))) 338 ((((((20 : Int32) * f) + (gi h 337 f.toNatClampNeg)) - (1 : Int32)) - (1 : Int32)).toNatClampNeg) (.int (0 : Int32))) 2 rfl E hG
                      have ho72 := E_retv rfl E
                      exact Or.inl ⟨c7, c14, c21, c28, c35, c42, c49, c62, c69, hG, ho72⟩
                    ·
                      have c73 : (gi h 338 ((((((20 : Int32) * f) + (gi h 337 f.toNatClampNeg)) - (1 : Int32)) - (1 : Int32)).toNatClampNeg)).toInt = (gi h 338 (((((20 : Int32) * f) + (gi h 337 f.toNatClampNeg)) - (1 : Int32)).toNatClampNeg)).toInt := Decidable.not_not.mp hc
                      clear hc
                      obtain ⟨m74, hm75, E, hG⟩ := E_go (pc' := 262) (lv' := [(5, .int (gi h 338 (((((20 : Int32) * f) + (gi h 337 f.toNatClampNeg)) - (1 : Int32)).toNatClampNeg))), (4, .int (gi h 338 ((((((20 : Int32) * f) + (gi h 337 f.toNatClampNeg)) - (1 : Int32)) - (1 : Int32)).toNatClampNeg))), (3, .int ((((20 : Int32) * f) + (gi h 337 f.toNatClampNeg)) - (1 : Int32))), (0, .ref 316), (1, .int f), (2, .int x)]) (st' := []) (h' := rk_pt (rk_pt h 337 f.toNatClampNeg (.int ((gi h 337 f.toNatClampNeg) - (1 : Int32)))) 338 ((((((20 : Int32) * f) + (gi h 337 f.toNatClampNeg)) - (1 : Int32)) - (1 : Int32)).toNatClampNeg) (.int (1 : Int32))) 3 rfl E hG
                      have ho76 := E_retv rfl E
                      exact Or.inr (Or.inl ⟨c7, c14, c21, c28, c35, c42, c49, c62, c73, hG, ho76⟩)
                  ·
                    have c77 : x.toInt = 4 := Decidable.not_not.mp hc
                    clear hc
                    obtain ⟨m78, hm79, E, hG⟩ := E_go (pc' := 238) (lv' := [(5, .int (gi h 338 (((((20 : Int32) * f) + (gi h 337 f.toNatClampNeg)) - (1 : Int32)).toNatClampNeg))), (4, .int (gi h 338 ((((((20 : Int32) * f) + (gi h 337 f.toNatClampNeg)) - (1 : Int32)) - (1 : Int32)).toNatClampNeg))), (3, .int ((((20 : Int32) * f) + (gi h 337 f.toNatClampNeg)) - (1 : Int32))), (0, .ref 316), (1, .int f), (2, .int x)]) (st' := [.int (gi h 338 (((((20 : Int32) * f) + (gi h 337 f.toNatClampNeg)) - (1 : Int32)).toNatClampNeg)), .int (gi h 338 ((((((20 : Int32) * f) + (gi h 337 f.toNatClampNeg)) - (1 : Int32)) - (1 : Int32)).toNatClampNeg)), .int (((((20 : Int32) * f) + (gi h 337 f.toNatClampNeg)) - (1 : Int32)) - (1 : Int32)), .ref 338]) (h' := rk_pt h 337 f.toNatClampNeg (.int ((gi h 337 f.toNatClampNeg) - (1 : Int32)))) 2 rfl E hG
                    rcases E_if2 (tg := 245) rfl rfl E with ⟨hc, m80, hm81, E⟩ | ⟨hc, m82, hm83, E⟩
                    ·
                      have c84 : (gi h 338 (((((20 : Int32) * f) + (gi h 337 f.toNatClampNeg)) - (1 : Int32)).toNatClampNeg)).toInt ≤ (gi h 338 ((((((20 : Int32) * f) + (gi h 337 f.toNatClampNeg)) - (1 : Int32)) - (1 : Int32)).toNatClampNeg)).toInt := hc
                      clear hc
                      obtain ⟨m85, hm86, E, hG⟩ := E_go (pc' := 262) (lv' := [(5, .int (gi h 338 (((((20 : Int32) * f) + (gi h 337 f.toNatClampNeg)) - (1 : Int32)).toNatClampNeg))), (4, .int (gi h 338 ((((((20 : Int32) * f) + (gi h 337 f.toNatClampNeg)) - (1 : Int32)) - (1 : Int32)).toNatClampNeg))), (3, .int ((((20 : Int32) * f) + (gi h 337 f.toNatClampNeg)) - (1 : Int32))), (0, .ref 316), (1, .int f), (2, .int x)]) (st' := []) (h' := rk_pt (rk_pt h 337 f.toNatClampNeg (.int ((gi h 337 f.toNatClampNeg) - (1 : Int32)))) 338 ((((((20 : Int32) * f) + (gi h 337 f.toNatClampNeg)) - (1 : Int32)) - (1 : Int32)).toNatClampNeg) (.int (0 : Int32))) 3 rfl E hG
                      have ho87 := E_retv rfl E
                      exact Or.inr (Or.inr (Or.inl ⟨c7, c14, c21, c28, c35, c42, c49, c77, c84, hG, ho87⟩))
                    ·
                      have c88 : ¬ ((gi h 338 (((((20 : Int32) * f) + (gi h 337 f.toNatClampNeg)) - (1 : Int32)).toNatClampNeg)).toInt ≤ (gi h 338 ((((((20 : Int32) * f) + (gi h 337 f.toNatClampNeg)) - (1 : Int32)) - (1 : Int32)).toNatClampNeg)).toInt) := hc
                      clear hc
                      obtain ⟨m89, hm90, E, hG⟩ := E_go (pc' := 262) (lv' := [(5, .int (gi h 338 (((((20 : Int32) * f) + (gi h 337 f.toNatClampNeg)) - (1 : Int32)).toNatClampNeg))), (4, .int (gi h 338 ((((((20 : Int32) * f) + (gi h 337 f.toNatClampNeg)) - (1 : Int32)) - (1 : Int32)).toNatClampNeg))), (3, .int ((((20 : Int32) * f) + (gi h 337 f.toNatClampNeg)) - (1 : Int32))), (0, .ref 316), (1, .int f), (2, .int x)]) (st' := []) (h' := rk_pt (rk_pt h 337 f.toNatClampNeg (.int ((gi h 337 f.toNatClampNeg) - (1 : Int32)))) 338 ((((((20 : Int32) * f) + (gi h 337 f.toNatClampNeg)) - (1 : Int32)) - (1 : Int32)).toNatClampNeg) (.int (1 : Int32))) 3 rfl E hG
                      have ho91 := E_retv rfl E
                      exact Or.inr (Or.inr (Or.inr (Or.inl ⟨c7, c14, c21, c28, c35, c42, c49, c77, c88, hG, ho91⟩)))
                · exact absurd c28 hc
              ·
                have c92 : x.toInt = 2 := Decidable.not_not.mp hc
                clear hc
                obtain ⟨m93, hm94, E, hG⟩ := E_go (pc' := 262) (lv' := [(5, .int (gi h 338 (((((20 : Int32) * f) + (gi h 337 f.toNatClampNeg)) - (1 : Int32)).toNatClampNeg))), (4, .int (gi h 338 ((((((20 : Int32) * f) + (gi h 337 f.toNatClampNeg)) - (1 : Int32)) - (1 : Int32)).toNatClampNeg))), (3, .int ((((20 : Int32) * f) + (gi h 337 f.toNatClampNeg)) - (1 : Int32))), (0, .ref 316), (1, .int f), (2, .int x)]) (st' := []) (h' := rk_pt (rk_pt h 337 f.toNatClampNeg (.int ((gi h 337 f.toNatClampNeg) - (1 : Int32)))) 338 ((((((20 : Int32) * f) + (gi h 337 f.toNatClampNeg)) - (1 : Int32)) - (1 : Int32)).toNatClampNeg) (.int ((gi h 338 ((((((20 : Int32) * f) + (gi h 337 f.toNatClampNeg)) - (1 : Int32)) - (1 : Int32)).toNatClampNeg)) * (gi h 338 (((((20 : Int32) * f) + (gi h 337 f.toNatClampNeg)) - (1 : Int32)).toNatClampNeg))))) 5 rfl E hG
                have ho95 := E_retv rfl E
                exact Or.inr (Or.inr (Or.inr (Or.inr (Or.inl ⟨c7, c14, c21, c28, c35, c42, c92, hG, ho95⟩))))
            ·
              have c96 : x.toInt = 1 := Decidable.not_not.mp hc
              clear hc
              obtain ⟨m97, hm98, E, hG⟩ := E_go (pc' := 262) (lv' := [(5, .int (gi h 338 (((((20 : Int32) * f) + (gi h 337 f.toNatClampNeg)) - (1 : Int32)).toNatClampNeg))), (4, .int (gi h 338 ((((((20 : Int32) * f) + (gi h 337 f.toNatClampNeg)) - (1 : Int32)) - (1 : Int32)).toNatClampNeg))), (3, .int ((((20 : Int32) * f) + (gi h 337 f.toNatClampNeg)) - (1 : Int32))), (0, .ref 316), (1, .int f), (2, .int x)]) (st' := []) (h' := rk_pt (rk_pt h 337 f.toNatClampNeg (.int ((gi h 337 f.toNatClampNeg) - (1 : Int32)))) 338 ((((((20 : Int32) * f) + (gi h 337 f.toNatClampNeg)) - (1 : Int32)) - (1 : Int32)).toNatClampNeg) (.int ((gi h 338 ((((((20 : Int32) * f) + (gi h 337 f.toNatClampNeg)) - (1 : Int32)) - (1 : Int32)).toNatClampNeg)) - (gi h 338 (((((20 : Int32) * f) + (gi h 337 f.toNatClampNeg)) - (1 : Int32)).toNatClampNeg))))) 5 rfl E hG
              have ho99 := E_retv rfl E
              exact Or.inr (Or.inr (Or.inr (Or.inr (Or.inr (Or.inl ⟨c7, c14, c21, c28, c35, c96, hG, ho99⟩)))))
          ·
            have c100 : x.toInt = 0 := Decidable.not_not.mp hc
            clear hc
            obtain ⟨m101, hm102, E, hG⟩ := E_go (pc' := 262) (lv' := [(5, .int (gi h 338 (((((20 : Int32) * f) + (gi h 337 f.toNatClampNeg)) - (1 : Int32)).toNatClampNeg))), (4, .int (gi h 338 ((((((20 : Int32) * f) + (gi h 337 f.toNatClampNeg)) - (1 : Int32)) - (1 : Int32)).toNatClampNeg))), (3, .int ((((20 : Int32) * f) + (gi h 337 f.toNatClampNeg)) - (1 : Int32))), (0, .ref 316), (1, .int f), (2, .int x)]) (st' := []) (h' := rk_pt (rk_pt h 337 f.toNatClampNeg (.int ((gi h 337 f.toNatClampNeg) - (1 : Int32)))) 338 ((((((20 : Int32) * f) + (gi h 337 f.toNatClampNeg)) - (1 : Int32)) - (1 : Int32)).toNatClampNeg) (.int ((gi h 338 ((((((20 : Int32) * f) + (gi h 337 f.toNatClampNeg)) - (1 : Int32)) - (1 : Int32)).toNatClampNeg)) + (gi h 338 (((((20 : Int32) * f) + (gi h 337 f.toNatClampNeg)) - (1 : Int32)).toNatClampNeg))))) 5 rfl E hG
            have ho103 := E_retv rfl E
            exact Or.inr (Or.inr (Or.inr (Or.inr (Or.inr (Or.inr (Or.inl ⟨c7, c14, c21, c28, c100, hG, ho103⟩))))))
        ·
          have c104 : x.toInt = 3 := Decidable.not_not.mp hc
          clear hc
          obtain ⟨m105, hm106, E, hG⟩ := E_go (pc' := 132) (lv' := [(3, .int ((((20 : Int32) * f) + (gi h 337 f.toNatClampNeg)) - (1 : Int32))), (0, .ref 316), (1, .int f), (2, .int x)]) (st' := [.int (gi h 338 (((((20 : Int32) * f) + (gi h 337 f.toNatClampNeg)) - (1 : Int32)).toNatClampNeg))]) (h' := h) 4 rfl E hG
          rcases E_if1 (tg := 143) rfl rfl E with ⟨hc, m107, hm108, E⟩ | ⟨hc, m109, hm110, E⟩
          ·
            have c111 : ¬ (gi h 338 (((((20 : Int32) * f) + (gi h 337 f.toNatClampNeg)) - (1 : Int32)).toNatClampNeg)).toInt = 0 := hc
            clear hc
            obtain ⟨m112, hm113, E, hG⟩ := E_go (pc' := 179) (lv' := [(5, .int (gi h 338 (((((20 : Int32) * f) + (gi h 337 f.toNatClampNeg)) - (1 : Int32)).toNatClampNeg))), (4, .int (gi h 338 ((((((20 : Int32) * f) + (gi h 337 f.toNatClampNeg)) - (1 : Int32)) - (1 : Int32)).toNatClampNeg))), (3, .int ((((20 : Int32) * f) + (gi h 337 f.toNatClampNeg)) - (1 : Int32))), (0, .ref 316), (1, .int f), (2, .int x)]) (st' := [.int x, .int (((((20 : Int32) * f) + (gi h 337 f.toNatClampNeg)) - (1 : Int32)) - (1 : Int32)), .ref 338]) (h' := rk_pt h 337 f.toNatClampNeg (.int ((gi h 337 f.toNatClampNeg) - (1 : Int32)))) 26 rfl E hG
            rcases E_if1 (tg := 190) rfl rfl E with ⟨hc, m114, hm115, E⟩ | ⟨hc, m116, hm117, E⟩
            ·
              clear hc
              obtain ⟨m118, hm119, E, hG⟩ := E_go (pc' := 192) (lv' := [(5, .int (gi h 338 (((((20 : Int32) * f) + (gi h 337 f.toNatClampNeg)) - (1 : Int32)).toNatClampNeg))), (4, .int (gi h 338 ((((((20 : Int32) * f) + (gi h 337 f.toNatClampNeg)) - (1 : Int32)) - (1 : Int32)).toNatClampNeg))), (3, .int ((((20 : Int32) * f) + (gi h 337 f.toNatClampNeg)) - (1 : Int32))), (0, .ref 316), (1, .int f), (2, .int x)]) (st' := [.int (1 : Int32), .int x, .int (((((20 : Int32) * f) + (gi h 337 f.toNatClampNeg)) - (1 : Int32)) - (1 : Int32)), .ref 338]) (h' := rk_pt h 337 f.toNatClampNeg (.int ((gi h 337 f.toNatClampNeg) - (1 : Int32)))) 2 rfl E hG
              rcases E_if2 (tg := 203) rfl rfl E with ⟨hc, m120, hm121, E⟩ | ⟨hc, m122, hm123, E⟩
              ·
                clear hc
                obtain ⟨m124, hm125, E, hG⟩ := E_go (pc' := 205) (lv' := [(5, .int (gi h 338 (((((20 : Int32) * f) + (gi h 337 f.toNatClampNeg)) - (1 : Int32)).toNatClampNeg))), (4, .int (gi h 338 ((((((20 : Int32) * f) + (gi h 337 f.toNatClampNeg)) - (1 : Int32)) - (1 : Int32)).toNatClampNeg))), (3, .int ((((20 : Int32) * f) + (gi h 337 f.toNatClampNeg)) - (1 : Int32))), (0, .ref 316), (1, .int f), (2, .int x)]) (st' := [.int (2 : Int32), .int x, .int (((((20 : Int32) * f) + (gi h 337 f.toNatClampNeg)) - (1 : Int32)) - (1 : Int32)), .ref 338]) (h' := rk_pt h 337 f.toNatClampNeg (.int ((gi h 337 f.toNatClampNeg) - (1 : Int32)))) 2 rfl E hG
                rcases E_if2 (tg := 216) rfl rfl E with ⟨hc, m126, hm127, E⟩ | ⟨hc, m128, hm129, E⟩
                ·
                  clear hc
                  obtain ⟨m130, hm131, E, hG⟩ := E_go (pc' := 218) (lv' := [(5, .int (gi h 338 (((((20 : Int32) * f) + (gi h 337 f.toNatClampNeg)) - (1 : Int32)).toNatClampNeg))), (4, .int (gi h 338 ((((((20 : Int32) * f) + (gi h 337 f.toNatClampNeg)) - (1 : Int32)) - (1 : Int32)).toNatClampNeg))), (3, .int ((((20 : Int32) * f) + (gi h 337 f.toNatClampNeg)) - (1 : Int32))), (0, .ref 316), (1, .int f), (2, .int x)]) (st' := [.int (3 : Int32), .int x, .int (((((20 : Int32) * f) + (gi h 337 f.toNatClampNeg)) - (1 : Int32)) - (1 : Int32)), .ref 338]) (h' := rk_pt h 337 f.toNatClampNeg (.int ((gi h 337 f.toNatClampNeg) - (1 : Int32)))) 2 rfl E hG
                  rcases E_if2 (tg := 229) rfl rfl E with ⟨hc, m132, hm133, E⟩ | ⟨hc, m134, hm135, E⟩
                  · exact absurd (show ¬ x.toInt = 3 from hc) (by omega)
                  ·
                    clear hc
                    obtain ⟨m136, hm137, E, hG⟩ := E_go (pc' := 262) (lv' := [(5, .int (gi h 338 (((((20 : Int32) * f) + (gi h 337 f.toNatClampNeg)) - (1 : Int32)).toNatClampNeg))), (4, .int (gi h 338 ((((((20 : Int32) * f) + (gi h 337 f.toNatClampNeg)) - (1 : Int32)) - (1 : Int32)).toNatClampNeg))), (3, .int ((((20 : Int32) * f) + (gi h 337 f.toNatClampNeg)) - (1 : Int32))), (0, .ref 316), (1, .int f), (2, .int x)]) (st' := []) (h' := rk_pt (rk_pt h 337 f.toNatClampNeg (.int ((gi h 337 f.toNatClampNeg) - (1 : Int32)))) 338 ((((((20 : Int32) * f) + (gi h 337 f.toNatClampNeg)) - (1 : Int32)) - (1 : Int32)).toNatClampNeg) (.int ((gi h 338 ((((((20 : Int32) * f) + (gi h 337 f.toNatClampNeg)) - (1 : Int32)) - (1 : Int32)).toNatClampNeg)) / (gi h 338 (((((20 : Int32) * f) + (gi h 337 f.toNatClampNeg)) - (1 : Int32)).toNatClampNeg))))) 5 rfl E hG
                    have ho138 := E_retv rfl E
                    exact Or.inr (Or.inr (Or.inr (Or.inr (Or.inr (Or.inr (Or.inr (Or.inl ⟨c7, c14, c21, c104, c111, hG, ho138⟩)))))))
                · exact absurd (show ¬ (¬ x.toInt = 2) from hc) (by omega)
              · exact absurd (show ¬ (¬ x.toInt = 1) from hc) (by omega)
            · exact absurd (show ¬ (¬ x.toInt = 0) from hc) (by omega)
          ·
            have c139 : (gi h 338 (((((20 : Int32) * f) + (gi h 337 f.toNatClampNeg)) - (1 : Int32)).toNatClampNeg)).toInt = 0 := Decidable.not_not.mp hc
            clear hc
            obtain ⟨m140, hm141, E, hG⟩ := E_go (pc' := 137) (lv' := [(3, .int ((((20 : Int32) * f) + (gi h 337 f.toNatClampNeg)) - (1 : Int32))), (0, .ref 316), (1, .int f), (2, .int x)]) (st' := [.int (3 : Int32), .ref 316]) (h' := h) 2 rfl E hG
            obtain ⟨m142, d143, o144, hm146, E145, F145⟩ := E_call (ar := ([.ref 316, .int (3 : Int32)], [])) rfl rfl rfl rfl rfl rfl E
            replace E145 : rk_ex m142 d143 rm_X8_refuse 0 [(0, .ref 316), (1, .int (3 : Int32))] [] h = some o144 := E145
            obtain ⟨m147, hm148, E145, hG⟩ := E_go (pc' := 5) (lv' := [(0, .ref 316), (1, .int (3 : Int32))]) (st' := []) (h' := rk_pt h 316 39 (.int (3 : Int32))) 3 rfl E145 hG
            have ho149 := E_retv rfl E145
            subst ho149
            have E : rk_ex m142 d rm_X8_acts 140 [(3, .int ((((20 : Int32) * f) + (gi h 337 f.toNatClampNeg)) - (1 : Int32))), (0, .ref 316), (1, .int f), (2, .int x)] [] (rk_pt h 316 39 (.int (3 : Int32))) = some o := F145
            obtain ⟨m150, hm151, E, hG⟩ := E_go (pc' := 262) (lv' := [(3, .int ((((20 : Int32) * f) + (gi h 337 f.toNatClampNeg)) - (1 : Int32))), (0, .ref 316), (1, .int f), (2, .int x)]) (st' := []) (h' := rk_pt h 316 39 (.int (3 : Int32))) 1 rfl E hG
            have ho152 := E_retv rfl E
            exact Or.inr (Or.inr (Or.inr (Or.inr (Or.inr (Or.inr (Or.inr (Or.inr (Or.inl ⟨c7, c14, c21, c104, c139, hG, ho152⟩))))))))
      ·
        have c153 : x.toInt = 6 := Decidable.not_not.mp hc
        clear hc
        obtain ⟨m154, hm155, E, hG⟩ := E_go (pc' := 262) (lv' := [(3, .int ((((20 : Int32) * f) + (gi h 337 f.toNatClampNeg)) - (1 : Int32))), (0, .ref 316), (1, .int f), (2, .int x)]) (st' := []) (h' := rk_pt h 337 f.toNatClampNeg (.int ((gi h 337 f.toNatClampNeg) - (1 : Int32)))) 9 rfl E hG
        have ho156 := E_retv rfl E
        exact Or.inr (Or.inr (Or.inr (Or.inr (Or.inr (Or.inr (Or.inr (Or.inr (Or.inr (Or.inl ⟨c7, c14, c153, hG, ho156⟩)))))))))
    ·
      have c157 : x.toInt = 7 := Decidable.not_not.mp hc
      clear hc
      obtain ⟨m158, hm159, E, hG⟩ := E_go (pc' := 96) (lv' := [(3, .int ((((20 : Int32) * f) + (gi h 337 f.toNatClampNeg)) - (1 : Int32))), (0, .ref 316), (1, .int f), (2, .int x)]) (st' := [.int (gi h 338 (((((20 : Int32) * f) + (gi h 337 f.toNatClampNeg)) - (1 : Int32)).toNatClampNeg)), .int f, .ref 316]) (h' := h) 6 rfl E hG
      exact Or.inr (Or.inr (Or.inr (Or.inr (Or.inr (Or.inr (Or.inr (Or.inr (Or.inr (Or.inr (Or.inl ⟨c7, c157, _, (by omega), hG, E⟩))))))))))
  ·
    have c160 : x.toInt = 8 := Decidable.not_not.mp hc
    clear hc
    obtain ⟨m161, hm162, E, hG⟩ := E_go (pc' := 28) (lv' := [(3, .int ((((20 : Int32) * f) + (gi h 337 f.toNatClampNeg)) - (1 : Int32))), (0, .ref 316), (1, .int f), (2, .int x)]) (st' := [.int (20 : Int32), .int (gi h 337 f.toNatClampNeg)]) (h' := h) 5 rfl E hG
    rcases E_if2 (tg := 39) rfl rfl E with ⟨hc, m163, hm164, E⟩ | ⟨hc, m165, hm166, E⟩
    ·
      have c167 : ¬ (gi h 337 f.toNatClampNeg).toInt = 20 := hc
      clear hc
      obtain ⟨m168, hm169, E, hG⟩ := E_go (pc' := 76) (lv' := [(3, .int ((((20 : Int32) * f) + (gi h 337 f.toNatClampNeg)) - (1 : Int32))), (0, .ref 316), (1, .int f), (2, .int x)]) (st' := [.int (((gi (rk_pt h 321 ((gi h 316 21).toNatClampNeg) (.int (((gi h 321 ((gi h 316 21).toNatClampNeg)) * (69069 : Int32)) + (1 : Int32)))) 321 ((gi (rk_pt h 321 ((gi h 316 21).toNatClampNeg) (.int (((gi h 321 ((gi h 316 21).toNatClampNeg)) * (69069 : Int32)) + (1 : Int32)))) 316 21).toNatClampNeg)).toUInt32 >>> ((16 : Int32).toUInt32 &&& Int32.toUInt32 31)).toInt32), .int f, .ref 316]) (h' := rk_pt h 321 ((gi h 316 21).toNatClampNeg) (.int (((gi h 321 ((gi h 316 21).toNatClampNeg)) * (69069 : Int32)) + (1 : Int32)))) 23 rfl E hG
      try simp only [gi_x (a := 321) (a' := 316) (by decide)] at E hG
      exact Or.inr (Or.inr (Or.inr (Or.inr (Or.inr (Or.inr (Or.inr (Or.inr (Or.inr (Or.inr (Or.inr (Or.inl ⟨c160, c167, _, (by omega), hG, E⟩)))))))))))
    ·
      have c170 : (gi h 337 f.toNatClampNeg).toInt = 20 := Decidable.not_not.mp hc
      clear hc
      obtain ⟨m171, hm172, E, hG⟩ := E_go (pc' := 33) (lv' := [(3, .int ((((20 : Int32) * f) + (gi h 337 f.toNatClampNeg)) - (1 : Int32))), (0, .ref 316), (1, .int f), (2, .int x)]) (st' := [.int (2 : Int32), .ref 316]) (h' := h) 2 rfl E hG
      obtain ⟨m173, d174, o175, hm177, E176, F176⟩ := E_call (ar := ([.ref 316, .int (2 : Int32)], [])) rfl rfl rfl rfl rfl rfl E
      replace E176 : rk_ex m173 d174 rm_X8_refuse 0 [(0, .ref 316), (1, .int (2 : Int32))] [] h = some o175 := E176
      obtain ⟨m178, hm179, E176, hG⟩ := E_go (pc' := 5) (lv' := [(0, .ref 316), (1, .int (2 : Int32))]) (st' := []) (h' := rk_pt h 316 39 (.int (2 : Int32))) 3 rfl E176 hG
      have ho180 := E_retv rfl E176
      subst ho180
      have E : rk_ex m173 d rm_X8_acts 36 [(3, .int ((((20 : Int32) * f) + (gi h 337 f.toNatClampNeg)) - (1 : Int32))), (0, .ref 316), (1, .int f), (2, .int x)] [] (rk_pt h 316 39 (.int (2 : Int32))) = some o := F176
      obtain ⟨m181, hm182, E, hG⟩ := E_go (pc' := 262) (lv' := [(3, .int ((((20 : Int32) * f) + (gi h 337 f.toNatClampNeg)) - (1 : Int32))), (0, .ref 316), (1, .int f), (2, .int x)]) (st' := []) (h' := rk_pt h 316 39 (.int (2 : Int32))) 1 rfl E hG
      have ho183 := E_retv rfl E
      exact Or.inr (Or.inr (Or.inr (Or.inr (Or.inr (Or.inr (Or.inr (Or.inr (Or.inr (Or.inr (Or.inr (Or.inr ⟨c160, c170, hG, ho183⟩)))))))))))
set_option maxRecDepth 100000 in
set_option maxHeartbeats 4000000 in
theorem ym_ar79 {n d : Nat} {h : rk_S} {o : Option Value × rk_S} {f x w : Int32} (hG : yG h) (E : rk_ex n d rm_X8_acts 79 [(3, .int w), (0, .ref 316), (1, .int f), (2, .int x)] [] h = some o) :
    (yG h ∧ o = (none, h)) := by
  obtain ⟨m1, hm2, E, hG⟩ := E_go (pc' := 262) (lv' := [(3, .int w), (0, .ref 316), (1, .int f), (2, .int x)]) (st' := []) (h' := h) 1 rfl E hG
  have ho3 := E_retv rfl E
  exact ⟨hG, ho3⟩
set_option maxRecDepth 100000 in
set_option maxHeartbeats 4000000 in
theorem ym_ar99 {n d : Nat} {h : rk_S} {o : Option Value × rk_S} {f x w : Int32} (hG : yG h) (E : rk_ex n d rm_X8_acts 99 [(3, .int w), (0, .ref 316), (1, .int f), (2, .int x)] [] h = some o) :
    (yG h ∧ o = (none, h)) := by
  obtain ⟨m1, hm2, E, hG⟩ := E_go (pc' := 262) (lv' := [(3, .int w), (0, .ref 316), (1, .int f), (2, .int x)]) (st' := []) (h' := h) 1 rfl E hG
  have ho3 := E_retv rfl E
  exact ⟨hG, ho3⟩
set_option maxRecDepth 100000 in
set_option maxHeartbeats 4000000 in
theorem ym_go0 {n d : Nat} {h : rk_S} {o : Option Value × rk_S} {t q p r a b c : Int32} (hG : yG h) (E : rk_ex n d rm_X8_go 0 [(0, .ref 316), (1, .int t), (2, .int q), (3, .int p), (4, .int r), (5, .int a), (6, .int b), (7, .int c)] [] h = some o) :
    (∃ m, m < n + 1 ∧ yG (rk_pt (rk_pt (rk_pt (rk_pt (rk_pt (rk_pt (rk_pt (rk_pt (rk_pt (rk_pt (rk_pt (rk_pt h 316 21 (.int t)) 316 22 (.int q)) 316 23 (.int p)) 316 24 (.int (0 : Int32))) 316 34 (.int (0 : Int32))) 316 35 (.int (0 : Int32))) 316 36 (.int (0 : Int32))) 316 37 (.int (0 : Int32))) 316 38 (.int (0 : Int32))) 316 39 (.int (0 : Int32))) 316 40 (.int (1 : Int32))) 316 41 (.int (0 : Int32))) ∧ rk_ex m d rm_X8_go 69 [(0, .ref 316), (1, .int t), (2, .int q), (3, .int p), (4, .int r), (5, .int a), (6, .int b), (7, .int c)] [.int c, .int b, .int a, .int r, .ref 316] (rk_pt (rk_pt (rk_pt (rk_pt (rk_pt (rk_pt (rk_pt (rk_pt (rk_pt (rk_pt (rk_pt (rk_pt h 316 21 (.int t)) 316 22 (.int q)) 316 23 (.int p)) 316 24 (.int (0 : Int32))) 316 34 (.int (0 : Int32))) 316 35 (.int (0 : Int32))) 316 36 (.int (0 : Int32))) 316 37 (.int (0 : Int32))) 316 38 (.int (0 : Int32))) 316 39 (.int (0 : Int32))) 316 40 (.int (1 : Int32))) 316 41 (.int (0 : Int32))) = some o) := by
  obtain ⟨m1, hm2, E, hG⟩ := E_go (pc' := 69) (lv' := [(0, .ref 316), (1, .int t), (2, .int q), (3, .int p), (4, .int r), (5, .int a), (6, .int b), (7, .int c)]) (st' := [.int c, .int b, .int a, .int r, .ref 316]) (h' := rk_pt (rk_pt (rk_pt (rk_pt (rk_pt (rk_pt (rk_pt (rk_pt (rk_pt (rk_pt (rk_pt (rk_pt h 316 21 (.int t)) 316 22 (.int q)) 316 23 (.int p)) 316 24 (.int (0 : Int32))) 316 34 (.int (0 : Int32))) 316 35 (.int (0 : Int32))) 316 36 (.int (0 : Int32))) 316 37 (.int (0 : Int32))) 316 38 (.int (0 : Int32))) 316 39 (.int (0 : Int32))) 316 40 (.int (1 : Int32))) 316 41 (.int (0 : Int32))) 41 rfl E hG
  exact ⟨_, (by omega), hG, E⟩
set_option maxRecDepth 100000 in
set_option maxHeartbeats 4000000 in
theorem ym_go {n d : Nat} {h : rk_S} {o : Option Value × rk_S} {t q p r a b c : Int32} (hG : yG h) (E : rk_ex n d rm_X8_go 72 [(0, .ref 316), (1, .int t), (2, .int q), (3, .int p), (4, .int r), (5, .int a), (6, .int b), (7, .int c)] [] h = some o) :
    ((gi h 316 24).toInt ≤ 0 ∧ yG h ∧ o = (none, h)) ∨
    (¬ ((gi h 316 24).toInt ≤ 0) ∧ ¬ (gi h 316 39).toInt = 0 ∧ ∃ m, m < n + 1 ∧ yG h ∧ rk_ex m d rm_X8_go 117 [(0, .ref 316), (1, .int t), (2, .int q), (3, .int p), (4, .int r), (5, .int a), (6, .int b), (7, .int c)] [.ref 316] h = some o) ∨
    (¬ ((gi h 316 24).toInt ≤ 0) ∧ (gi h 316 39).toInt = 0 ∧ ¬ (gi h 335 (((gi h 316 24) - (1 : Int32)).toNatClampNeg)).toInt = (gi h 317 ((gi h 334 (((gi h 316 24) - (1 : Int32)).toNatClampNeg)).toNatClampNeg)).toInt ∧ ∃ m, m < n + 1 ∧ yG h ∧ rk_ex m d rm_X8_go 124 [(0, .ref 316), (1, .int t), (2, .int q), (3, .int p), (4, .int r), (5, .int a), (6, .int b), (7, .int c)] [.ref 316] h = some o) ∨
    (¬ ((gi h 316 24).toInt ≤ 0) ∧ (gi h 316 39).toInt = 0 ∧ (gi h 335 (((gi h 316 24) - (1 : Int32)).toNatClampNeg)).toInt = (gi h 317 ((gi h 334 (((gi h 316 24) - (1 : Int32)).toNatClampNeg)).toNatClampNeg)).toInt ∧ ∃ m, m < n + 1 ∧ yG h ∧ rk_ex m d rm_X8_go 117 [(0, .ref 316), (1, .int t), (2, .int q), (3, .int p), (4, .int r), (5, .int a), (6, .int b), (7, .int c)] [.ref 316] h = some o) := by
  obtain ⟨m1, hm2, E, hG⟩ := E_go (pc' := 76) (lv' := [(0, .ref 316), (1, .int t), (2, .int q), (3, .int p), (4, .int r), (5, .int a), (6, .int b), (7, .int c)]) (st' := [.int (gi h 316 24)]) (h' := h) 2 rfl E hG
  rcases E_if1 (tg := 130) rfl rfl E with ⟨hc, m3, hm4, E⟩ | ⟨hc, m5, hm6, E⟩
  ·
    have c7 : (gi h 316 24).toInt ≤ 0 := hc
    clear hc
    have ho8 := E_retv rfl E
    exact Or.inl ⟨c7, hG, ho8⟩
  ·
    have c9 : ¬ ((gi h 316 24).toInt ≤ 0) := hc
    clear hc
    obtain ⟨m10, hm11, E, hG⟩ := E_go (pc' := 83) (lv' := [(0, .ref 316), (1, .int t), (2, .int q), (3, .int p), (4, .int r), (5, .int a), (6, .int b), (7, .int c)]) (st' := [.int (gi h 316 39)]) (h' := h) 2 rfl E hG
    rcases E_if1 (tg := 116) rfl rfl E with ⟨hc, m12, hm13, E⟩ | ⟨hc, m14, hm15, E⟩
    ·
      have c16 : ¬ (gi h 316 39).toInt = 0 := hc
      clear hc
      obtain ⟨m17, hm18, E, hG⟩ := E_go (pc' := 117) (lv' := [(0, .ref 316), (1, .int t), (2, .int q), (3, .int p), (4, .int r), (5, .int a), (6, .int b), (7, .int c)]) (st' := [.ref 316]) (h' := h) 1 rfl E hG
      exact Or.inr (Or.inl ⟨c9, c16, _, (by omega), hG, E⟩)
    ·
      have c19 : (gi h 316 39).toInt = 0 := Decidable.not_not.mp hc
      clear hc
      obtain ⟨m20, hm21, E, hG⟩ := E_go (pc' := 113) (lv' := [(0, .ref 316), (1, .int t), (2, .int q), (3, .int p), (4, .int r), (5, .int a), (6, .int b), (7, .int c)]) (st' := [.int (gi h 317 ((gi h 334 (((gi h 316 24) - (1 : Int32)).toNatClampNeg)).toNatClampNeg)), .int (gi h 335 (((gi h 316 24) - (1 : Int32)).toNatClampNeg))]) (h' := h) 17 rfl E hG
      rcases E_if2 (tg := 123) rfl rfl E with ⟨hc, m22, hm23, E⟩ | ⟨hc, m24, hm25, E⟩
      ·
        have c26 : ¬ (gi h 335 (((gi h 316 24) - (1 : Int32)).toNatClampNeg)).toInt = (gi h 317 ((gi h 334 (((gi h 316 24) - (1 : Int32)).toNatClampNeg)).toNatClampNeg)).toInt := hc
        clear hc
        obtain ⟨m27, hm28, E, hG⟩ := E_go (pc' := 124) (lv' := [(0, .ref 316), (1, .int t), (2, .int q), (3, .int p), (4, .int r), (5, .int a), (6, .int b), (7, .int c)]) (st' := [.ref 316]) (h' := h) 1 rfl E hG
        exact Or.inr (Or.inr (Or.inl ⟨c9, c19, c26, _, (by omega), hG, E⟩))
      ·
        have c29 : (gi h 335 (((gi h 316 24) - (1 : Int32)).toNatClampNeg)).toInt = (gi h 317 ((gi h 334 (((gi h 316 24) - (1 : Int32)).toNatClampNeg)).toNatClampNeg)).toInt := Decidable.not_not.mp hc
        clear hc
        obtain ⟨m30, hm31, E, hG⟩ := E_go (pc' := 117) (lv' := [(0, .ref 316), (1, .int t), (2, .int q), (3, .int p), (4, .int r), (5, .int a), (6, .int b), (7, .int c)]) (st' := [.ref 316]) (h' := h) 1 rfl E hG
        exact Or.inr (Or.inr (Or.inr ⟨c9, c19, c29, _, (by omega), hG, E⟩))
set_option maxRecDepth 100000 in
set_option maxHeartbeats 4000000 in
theorem ym_go1 {n d : Nat} {h : rk_S} {o : Option Value × rk_S} {t q p r a b c : Int32} (hG : yG h) (E : rk_ex n d rm_X8_go 120 [(0, .ref 316), (1, .int t), (2, .int q), (3, .int p), (4, .int r), (5, .int a), (6, .int b), (7, .int c)] [] h = some o) :
    (∃ m, m < n ∧ yG h ∧ rk_ex m d rm_X8_go 72 [(0, .ref 316), (1, .int t), (2, .int q), (3, .int p), (4, .int r), (5, .int a), (6, .int b), (7, .int c)] [] h = some o) := by
  obtain ⟨m1, hm2, E, hG⟩ := E_go (pc' := 72) (lv' := [(0, .ref 316), (1, .int t), (2, .int q), (3, .int p), (4, .int r), (5, .int a), (6, .int b), (7, .int c)]) (st' := []) (h' := h) 1 rfl E hG
  exact ⟨_, (by omega), hG, E⟩
set_option maxRecDepth 100000 in
set_option maxHeartbeats 4000000 in
theorem ym_go2 {n d : Nat} {h : rk_S} {o : Option Value × rk_S} {t q p r a b c : Int32} (hG : yG h) (E : rk_ex n d rm_X8_go 127 [(0, .ref 316), (1, .int t), (2, .int q), (3, .int p), (4, .int r), (5, .int a), (6, .int b), (7, .int c)] [] h = some o) :
    (∃ m, m < n ∧ yG h ∧ rk_ex m d rm_X8_go 72 [(0, .ref 316), (1, .int t), (2, .int q), (3, .int p), (4, .int r), (5, .int a), (6, .int b), (7, .int c)] [] h = some o) := by
  obtain ⟨m1, hm2, E, hG⟩ := E_go (pc' := 72) (lv' := [(0, .ref 316), (1, .int t), (2, .int q), (3, .int p), (4, .int r), (5, .int a), (6, .int b), (7, .int c)]) (st' := []) (h' := h) 1 rfl E hG
  exact ⟨_, (by omega), hG, E⟩
set_option maxRecDepth 100000 in
set_option maxHeartbeats 4000000 in
theorem ym_fd0 {n d : Nat} {h : rk_S} {o : Option Value × rk_S} {r a b c : Int32} (hG : yG h) (E : rk_ex n d rm_X8_find 0 [(0, .ref 316), (1, .int r), (2, .int a), (3, .int b), (4, .int c)] [] h = some o) :
    (∃ m, m < n ∧ yG h ∧ rk_ex m d rm_X8_find 9 [(0, .ref 316), (1, .int r), (2, .int a), (3, .int b), (4, .int c), (5, .int ((32 : Int32) * (gi h 316 21))), (6, .int (0 : Int32))] [] h = some o) := by
  obtain ⟨m1, hm2, E, hG⟩ := E_go (pc' := 9) (lv' := [(5, .int ((32 : Int32) * (gi h 316 21))), (0, .ref 316), (1, .int r), (2, .int a), (3, .int b), (4, .int c)]) (st' := []) (h' := h) 5 rfl E hG
  replace E := E_lv [(0, .ref 316), (1, .int r), (2, .int a), (3, .int b), (4, .int c), (5, .int ((32 : Int32) * (gi h 316 21))), (6, .int (0 : Int32))] rfl (lvs_c rfl rfl (lvs_c rfl rfl (lvs_c rfl rfl (lvs_c rfl rfl (lvs_c rfl rfl (lvs_c rfl rfl lvs_n)))))) E
  exact ⟨_, (by omega), hG, E⟩
set_option maxRecDepth 100000 in
set_option maxHeartbeats 4000000 in
theorem ym_fd {n d : Nat} {h : rk_S} {o : Option Value × rk_S} {r a b c y z : Int32} (hG : yG h) (E : rk_ex n d rm_X8_find 9 [(0, .ref 316), (1, .int r), (2, .int a), (3, .int b), (4, .int c), (5, .int y), (6, .int z)] [] h = some o) :
    ((((32 : Int32) * (gi h 316 21)) + (gi h 322 ((gi h 316 21).toNatClampNeg))).toInt ≤ y.toInt ∧ yG h ∧ o = (some (.int ((-6) : Int32)), h)) ∨
    (¬ ((((32 : Int32) * (gi h 316 21)) + (gi h 322 ((gi h 316 21).toNatClampNeg))).toInt ≤ y.toInt) ∧ ¬ (gi h 323 y.toNatClampNeg).toInt = r.toInt ∧ ∃ m, m < n ∧ yG h ∧ rk_ex m d rm_X8_find 58 [(0, .ref 316), (1, .int r), (2, .int a), (3, .int b), (4, .int c), (5, .int y), (6, .int (0 : Int32))] [] h = some o) ∨
    (¬ ((((32 : Int32) * (gi h 316 21)) + (gi h 322 ((gi h 316 21).toNatClampNeg))).toInt ≤ y.toInt) ∧ (gi h 323 y.toNatClampNeg).toInt = r.toInt ∧ ∃ m, m < n + 1 ∧ yG h ∧ rk_ex m d rm_X8_find 45 [(0, .ref 316), (1, .int r), (2, .int a), (3, .int b), (4, .int c), (5, .int y), (6, .int z)] [.int y, .ref 316] h = some o) := by
  obtain ⟨m1, hm2, E, hG⟩ := E_go (pc' := 28) (lv' := [(0, .ref 316), (1, .int r), (2, .int a), (3, .int b), (4, .int c), (5, .int y), (6, .int z)]) (st' := [.int (((32 : Int32) * (gi h 316 21)) + (gi h 322 ((gi h 316 21).toNatClampNeg))), .int y]) (h' := h) 11 rfl E hG
  rcases E_if2 (tg := 188) rfl rfl E with ⟨hc, m3, hm4, E⟩ | ⟨hc, m5, hm6, E⟩
  ·
    have c7 : (((32 : Int32) * (gi h 316 21)) + (gi h 322 ((gi h 316 21).toNatClampNeg))).toInt ≤ y.toInt := hc
    clear hc
    obtain ⟨m8, hm9, E, hG⟩ := E_go (pc' := 190) (lv' := [(0, .ref 316), (1, .int r), (2, .int a), (3, .int b), (4, .int c), (5, .int y), (6, .int z)]) (st' := [.int ((-6) : Int32)]) (h' := h) 1 rfl E hG
    have ho10 := E_reti rfl E
    exact Or.inl ⟨c7, hG, ho10⟩
  ·
    have c11 : ¬ ((((32 : Int32) * (gi h 316 21)) + (gi h 322 ((gi h 316 21).toNatClampNeg))).toInt ≤ y.toInt) := hc
    clear hc
    obtain ⟨m12, hm13, E, hG⟩ := E_go (pc' := 39) (lv' := [(0, .ref 316), (1, .int r), (2, .int a), (3, .int b), (4, .int c), (5, .int y), (6, .int z)]) (st' := [.int r, .int (gi h 323 y.toNatClampNeg)]) (h' := h) 5 rfl E hG
    rcases E_if2 (tg := 55) rfl rfl E with ⟨hc, m14, hm15, E⟩ | ⟨hc, m16, hm17, E⟩
    ·
      have c18 : ¬ (gi h 323 y.toNatClampNeg).toInt = r.toInt := hc
      clear hc
      obtain ⟨m19, hm20, E, hG⟩ := E_go (pc' := 58) (lv' := [(6, .int (0 : Int32)), (0, .ref 316), (1, .int r), (2, .int a), (3, .int b), (4, .int c), (5, .int y)]) (st' := []) (h' := h) 2 rfl E hG
      replace E := E_lv [(0, .ref 316), (1, .int r), (2, .int a), (3, .int b), (4, .int c), (5, .int y), (6, .int (0 : Int32))] rfl (lvs_c rfl rfl (lvs_c rfl rfl (lvs_c rfl rfl (lvs_c rfl rfl (lvs_c rfl rfl (lvs_c rfl rfl (lvs_c rfl rfl lvs_n))))))) E
      exact Or.inr (Or.inl ⟨c11, c18, _, (by omega), hG, E⟩)
    ·
      have c22 : (gi h 323 y.toNatClampNeg).toInt = r.toInt := Decidable.not_not.mp hc
      clear hc
      obtain ⟨m23, hm24, E, hG⟩ := E_go (pc' := 45) (lv' := [(0, .ref 316), (1, .int r), (2, .int a), (3, .int b), (4, .int c), (5, .int y), (6, .int z)]) (st' := [.int y, .ref 316]) (h' := h) 2 rfl E hG
      exact Or.inr (Or.inr ⟨c11, c22, _, (by omega), hG, E⟩)
set_option maxRecDepth 100000 in
set_option maxHeartbeats 4000000 in
theorem ym_fd1 {n d : Nat} {h : rk_S} {o : Option Value × rk_S} {r a b c y z w : Int32} (hG : yG h) (E : rk_ex n d rm_X8_find 48 [(0, .ref 316), (1, .int r), (2, .int a), (3, .int b), (4, .int c), (5, .int y), (6, .int z)] [.int w] h = some o) :
    (w.toInt = 0 ∧ ∃ m, m < n ∧ yG h ∧ rk_ex m d rm_X8_find 58 [(0, .ref 316), (1, .int r), (2, .int a), (3, .int b), (4, .int c), (5, .int y), (6, .int (0 : Int32))] [] h = some o) ∨
    (¬ (w.toInt = 0) ∧ ∃ m, m < n ∧ yG h ∧ rk_ex m d rm_X8_find 58 [(0, .ref 316), (1, .int r), (2, .int a), (3, .int b), (4, .int c), (5, .int y), (6, .int (1 : Int32))] [] h = some o) := by
  rcases E_if1 (tg := 55) rfl rfl E with ⟨hc, m1, hm2, E⟩ | ⟨hc, m3, hm4, E⟩
  ·
    have c5 : w.toInt = 0 := hc
    clear hc
    obtain ⟨m6, hm7, E, hG⟩ := E_go (pc' := 58) (lv' := [(6, .int (0 : Int32)), (0, .ref 316), (1, .int r), (2, .int a), (3, .int b), (4, .int c), (5, .int y)]) (st' := []) (h' := h) 2 rfl E hG
    replace E := E_lv [(0, .ref 316), (1, .int r), (2, .int a), (3, .int b), (4, .int c), (5, .int y), (6, .int (0 : Int32))] rfl (lvs_c rfl rfl (lvs_c rfl rfl (lvs_c rfl rfl (lvs_c rfl rfl (lvs_c rfl rfl (lvs_c rfl rfl (lvs_c rfl rfl lvs_n))))))) E
    exact Or.inl ⟨c5, _, (by omega), hG, E⟩
  ·
    have c9 : ¬ (w.toInt = 0) := hc
    clear hc
    obtain ⟨m10, hm11, E, hG⟩ := E_go (pc' := 58) (lv' := [(6, .int (1 : Int32)), (0, .ref 316), (1, .int r), (2, .int a), (3, .int b), (4, .int c), (5, .int y)]) (st' := []) (h' := h) 3 rfl E hG
    replace E := E_lv [(0, .ref 316), (1, .int r), (2, .int a), (3, .int b), (4, .int c), (5, .int y), (6, .int (1 : Int32))] rfl (lvs_c rfl rfl (lvs_c rfl rfl (lvs_c rfl rfl (lvs_c rfl rfl (lvs_c rfl rfl (lvs_c rfl rfl (lvs_c rfl rfl lvs_n))))))) E
    exact Or.inr ⟨c9, _, (by omega), hG, E⟩
set_option maxRecDepth 100000 in
set_option maxHeartbeats 4000000 in
theorem ym_fd2 {n d : Nat} {h : rk_S} {o : Option Value × rk_S} {r a b c y z : Int32} (hG : yG h) (E : rk_ex n d rm_X8_find 58 [(0, .ref 316), (1, .int r), (2, .int a), (3, .int b), (4, .int c), (5, .int y), (6, .int z)] [] h = some o) :
    (z.toInt = 0 ∧ ∃ m, m < n ∧ yG h ∧ rk_ex m d rm_X8_find 95 [(0, .ref 316), (1, .int r), (2, .int a), (3, .int b), (4, .int c), (5, .int y), (6, .int (0 : Int32))] [] h = some o) ∨
    (¬ (z.toInt = 0) ∧ ((gi h 324 y.toNatClampNeg) &&& (1 : Int32)).toInt = 0 ∧ ∃ m, m < n ∧ yG h ∧ rk_ex m d rm_X8_find 95 [(0, .ref 316), (1, .int r), (2, .int a), (3, .int b), (4, .int c), (5, .int y), (6, .int (1 : Int32))] [] h = some o) ∨
    (¬ (z.toInt = 0) ∧ ¬ (((gi h 324 y.toNatClampNeg) &&& (1 : Int32)).toInt = 0) ∧ ¬ (gi h 325 (((3 : Int32) * y).toNatClampNeg)).toInt = a.toInt ∧ ∃ m, m < n ∧ yG h ∧ rk_ex m d rm_X8_find 95 [(0, .ref 316), (1, .int r), (2, .int a), (3, .int b), (4, .int c), (5, .int y), (6, .int (0 : Int32))] [] h = some o) ∨
    (¬ (z.toInt = 0) ∧ ¬ (((gi h 324 y.toNatClampNeg) &&& (1 : Int32)).toInt = 0) ∧ (gi h 325 (((3 : Int32) * y).toNatClampNeg)).toInt = a.toInt ∧ ∃ m, m < n ∧ yG h ∧ rk_ex m d rm_X8_find 95 [(0, .ref 316), (1, .int r), (2, .int a), (3, .int b), (4, .int c), (5, .int y), (6, .int (1 : Int32))] [] h = some o) := by
  obtain ⟨m1, hm2, E, hG⟩ := E_go (pc' := 60) (lv' := [(0, .ref 316), (1, .int r), (2, .int a), (3, .int b), (4, .int c), (5, .int y), (6, .int z)]) (st' := [.int z]) (h' := h) 1 rfl E hG
  rcases E_if1 (tg := 92) rfl rfl E with ⟨hc, m3, hm4, E⟩ | ⟨hc, m5, hm6, E⟩
  ·
    have c7 : z.toInt = 0 := hc
    clear hc
    obtain ⟨m8, hm9, E, hG⟩ := E_go (pc' := 95) (lv' := [(6, .int (0 : Int32)), (0, .ref 316), (1, .int r), (2, .int a), (3, .int b), (4, .int c), (5, .int y)]) (st' := []) (h' := h) 2 rfl E hG
    replace E := E_lv [(0, .ref 316), (1, .int r), (2, .int a), (3, .int b), (4, .int c), (5, .int y), (6, .int (0 : Int32))] rfl (lvs_c rfl rfl (lvs_c rfl rfl (lvs_c rfl rfl (lvs_c rfl rfl (lvs_c rfl rfl (lvs_c rfl rfl (lvs_c rfl rfl lvs_n))))))) E
    exact Or.inl ⟨c7, _, (by omega), hG, E⟩
  ·
    have c11 : ¬ (z.toInt = 0) := hc
    clear hc
    obtain ⟨m12, hm13, E, hG⟩ := E_go (pc' := 72) (lv' := [(0, .ref 316), (1, .int r), (2, .int a), (3, .int b), (4, .int c), (5, .int y), (6, .int z)]) (st' := [.int ((gi h 324 y.toNatClampNeg) &&& (1 : Int32))]) (h' := h) 6 rfl E hG
    rcases E_if1 (tg := 88) rfl rfl E with ⟨hc, m14, hm15, E⟩ | ⟨hc, m16, hm17, E⟩
    ·
      have c18 : ((gi h 324 y.toNatClampNeg) &&& (1 : Int32)).toInt = 0 := hc
      clear hc
      obtain ⟨m19, hm20, E, hG⟩ := E_go (pc' := 95) (lv' := [(6, .int (1 : Int32)), (0, .ref 316), (1, .int r), (2, .int a), (3, .int b), (4, .int c), (5, .int y)]) (st' := []) (h' := h) 3 rfl E hG
      replace E := E_lv [(0, .ref 316), (1, .int r), (2, .int a), (3, .int b), (4, .int c), (5, .int y), (6, .int (1 : Int32))] rfl (lvs_c rfl rfl (lvs_c rfl rfl (lvs_c rfl rfl (lvs_c rfl rfl (lvs_c rfl rfl (lvs_c rfl rfl (lvs_c rfl rfl lvs_n))))))) E
      exact Or.inr (Or.inl ⟨c11, c18, _, (by omega), hG, E⟩)
    ·
      have c22 : ¬ (((gi h 324 y.toNatClampNeg) &&& (1 : Int32)).toInt = 0) := hc
      clear hc
      obtain ⟨m23, hm24, E, hG⟩ := E_go (pc' := 85) (lv' := [(0, .ref 316), (1, .int r), (2, .int a), (3, .int b), (4, .int c), (5, .int y), (6, .int z)]) (st' := [.int a, .int (gi h 325 (((3 : Int32) * y).toNatClampNeg))]) (h' := h) 7 rfl E hG
      rcases E_if2 (tg := 92) rfl rfl E with ⟨hc, m25, hm26, E⟩ | ⟨hc, m27, hm28, E⟩
      ·
        have c29 : ¬ (gi h 325 (((3 : Int32) * y).toNatClampNeg)).toInt = a.toInt := hc
        clear hc
        obtain ⟨m30, hm31, E, hG⟩ := E_go (pc' := 95) (lv' := [(6, .int (0 : Int32)), (0, .ref 316), (1, .int r), (2, .int a), (3, .int b), (4, .int c), (5, .int y)]) (st' := []) (h' := h) 2 rfl E hG
        replace E := E_lv [(0, .ref 316), (1, .int r), (2, .int a), (3, .int b), (4, .int c), (5, .int y), (6, .int (0 : Int32))] rfl (lvs_c rfl rfl (lvs_c rfl rfl (lvs_c rfl rfl (lvs_c rfl rfl (lvs_c rfl rfl (lvs_c rfl rfl (lvs_c rfl rfl lvs_n))))))) E
        exact Or.inr (Or.inr (Or.inl ⟨c11, c22, c29, _, (by omega), hG, E⟩))
      ·
        have c33 : (gi h 325 (((3 : Int32) * y).toNatClampNeg)).toInt = a.toInt := Decidable.not_not.mp hc
        clear hc
        obtain ⟨m34, hm35, E, hG⟩ := E_go (pc' := 95) (lv' := [(6, .int (1 : Int32)), (0, .ref 316), (1, .int r), (2, .int a), (3, .int b), (4, .int c), (5, .int y)]) (st' := []) (h' := h) 3 rfl E hG
        replace E := E_lv [(0, .ref 316), (1, .int r), (2, .int a), (3, .int b), (4, .int c), (5, .int y), (6, .int (1 : Int32))] rfl (lvs_c rfl rfl (lvs_c rfl rfl (lvs_c rfl rfl (lvs_c rfl rfl (lvs_c rfl rfl (lvs_c rfl rfl (lvs_c rfl rfl lvs_n))))))) E
        exact Or.inr (Or.inr (Or.inr ⟨c11, c22, c33, _, (by omega), hG, E⟩))
set_option maxRecDepth 100000 in
set_option maxHeartbeats 4000000 in
theorem ym_fd3 {n d : Nat} {h : rk_S} {o : Option Value × rk_S} {r a b c y z : Int32} (hG : yG h) (E : rk_ex n d rm_X8_find 95 [(0, .ref 316), (1, .int r), (2, .int a), (3, .int b), (4, .int c), (5, .int y), (6, .int z)] [] h = some o) :
    (z.toInt = 0 ∧ ∃ m, m < n ∧ yG h ∧ rk_ex m d rm_X8_find 134 [(0, .ref 316), (1, .int r), (2, .int a), (3, .int b), (4, .int c), (5, .int y), (6, .int (0 : Int32))] [] h = some o) ∨
    (¬ (z.toInt = 0) ∧ ((gi h 324 y.toNatClampNeg) &&& (2 : Int32)).toInt = 0 ∧ ∃ m, m < n ∧ yG h ∧ rk_ex m d rm_X8_find 134 [(0, .ref 316), (1, .int r), (2, .int a), (3, .int b), (4, .int c), (5, .int y), (6, .int (1 : Int32))] [] h = some o) ∨
    (¬ (z.toInt = 0) ∧ ¬ (((gi h 324 y.toNatClampNeg) &&& (2 : Int32)).toInt = 0) ∧ ¬ (gi h 325 ((((3 : Int32) * y) + (1 : Int32)).toNatClampNeg)).toInt = b.toInt ∧ ∃ m, m < n ∧ yG h ∧ rk_ex m d rm_X8_find 134 [(0, .ref 316), (1, .int r), (2, .int a), (3, .int b), (4, .int c), (5, .int y), (6, .int (0 : Int32))] [] h = some o) ∨
    (¬ (z.toInt = 0) ∧ ¬ (((gi h 324 y.toNatClampNeg) &&& (2 : Int32)).toInt = 0) ∧ (gi h 325 ((((3 : Int32) * y) + (1 : Int32)).toNatClampNeg)).toInt = b.toInt ∧ ∃ m, m < n ∧ yG h ∧ rk_ex m d rm_X8_find 134 [(0, .ref 316), (1, .int r), (2, .int a), (3, .int b), (4, .int c), (5, .int y), (6, .int (1 : Int32))] [] h = some o) := by
  obtain ⟨m1, hm2, E, hG⟩ := E_go (pc' := 97) (lv' := [(0, .ref 316), (1, .int r), (2, .int a), (3, .int b), (4, .int c), (5, .int y), (6, .int z)]) (st' := [.int z]) (h' := h) 1 rfl E hG
  rcases E_if1 (tg := 131) rfl rfl E with ⟨hc, m3, hm4, E⟩ | ⟨hc, m5, hm6, E⟩
  ·
    have c7 : z.toInt = 0 := hc
    clear hc
    obtain ⟨m8, hm9, E, hG⟩ := E_go (pc' := 134) (lv' := [(6, .int (0 : Int32)), (0, .ref 316), (1, .int r), (2, .int a), (3, .int b), (4, .int c), (5, .int y)]) (st' := []) (h' := h) 2 rfl E hG
    replace E := E_lv [(0, .ref 316), (1, .int r), (2, .int a), (3, .int b), (4, .int c), (5, .int y), (6, .int (0 : Int32))] rfl (lvs_c rfl rfl (lvs_c rfl rfl (lvs_c rfl rfl (lvs_c rfl rfl (lvs_c rfl rfl (lvs_c rfl rfl (lvs_c rfl rfl lvs_n))))))) E
    exact Or.inl ⟨c7, _, (by omega), hG, E⟩
  ·
    have c11 : ¬ (z.toInt = 0) := hc
    clear hc
    obtain ⟨m12, hm13, E, hG⟩ := E_go (pc' := 109) (lv' := [(0, .ref 316), (1, .int r), (2, .int a), (3, .int b), (4, .int c), (5, .int y), (6, .int z)]) (st' := [.int ((gi h 324 y.toNatClampNeg) &&& (2 : Int32))]) (h' := h) 6 rfl E hG
    rcases E_if1 (tg := 127) rfl rfl E with ⟨hc, m14, hm15, E⟩ | ⟨hc, m16, hm17, E⟩
    ·
      have c18 : ((gi h 324 y.toNatClampNeg) &&& (2 : Int32)).toInt = 0 := hc
      clear hc
      obtain ⟨m19, hm20, E, hG⟩ := E_go (pc' := 134) (lv' := [(6, .int (1 : Int32)), (0, .ref 316), (1, .int r), (2, .int a), (3, .int b), (4, .int c), (5, .int y)]) (st' := []) (h' := h) 3 rfl E hG
      replace E := E_lv [(0, .ref 316), (1, .int r), (2, .int a), (3, .int b), (4, .int c), (5, .int y), (6, .int (1 : Int32))] rfl (lvs_c rfl rfl (lvs_c rfl rfl (lvs_c rfl rfl (lvs_c rfl rfl (lvs_c rfl rfl (lvs_c rfl rfl (lvs_c rfl rfl lvs_n))))))) E
      exact Or.inr (Or.inl ⟨c11, c18, _, (by omega), hG, E⟩)
    ·
      have c22 : ¬ (((gi h 324 y.toNatClampNeg) &&& (2 : Int32)).toInt = 0) := hc
      clear hc
      obtain ⟨m23, hm24, E, hG⟩ := E_go (pc' := 124) (lv' := [(0, .ref 316), (1, .int r), (2, .int a), (3, .int b), (4, .int c), (5, .int y), (6, .int z)]) (st' := [.int b, .int (gi h 325 ((((3 : Int32) * y) + (1 : Int32)).toNatClampNeg))]) (h' := h) 9 rfl E hG
      rcases E_if2 (tg := 131) rfl rfl E with ⟨hc, m25, hm26, E⟩ | ⟨hc, m27, hm28, E⟩
      ·
        have c29 : ¬ (gi h 325 ((((3 : Int32) * y) + (1 : Int32)).toNatClampNeg)).toInt = b.toInt := hc
        clear hc
        obtain ⟨m30, hm31, E, hG⟩ := E_go (pc' := 134) (lv' := [(6, .int (0 : Int32)), (0, .ref 316), (1, .int r), (2, .int a), (3, .int b), (4, .int c), (5, .int y)]) (st' := []) (h' := h) 2 rfl E hG
        replace E := E_lv [(0, .ref 316), (1, .int r), (2, .int a), (3, .int b), (4, .int c), (5, .int y), (6, .int (0 : Int32))] rfl (lvs_c rfl rfl (lvs_c rfl rfl (lvs_c rfl rfl (lvs_c rfl rfl (lvs_c rfl rfl (lvs_c rfl rfl (lvs_c rfl rfl lvs_n))))))) E
        exact Or.inr (Or.inr (Or.inl ⟨c11, c22, c29, _, (by omega), hG, E⟩))
      ·
        have c33 : (gi h 325 ((((3 : Int32) * y) + (1 : Int32)).toNatClampNeg)).toInt = b.toInt := Decidable.not_not.mp hc
        clear hc
        obtain ⟨m34, hm35, E, hG⟩ := E_go (pc' := 134) (lv' := [(6, .int (1 : Int32)), (0, .ref 316), (1, .int r), (2, .int a), (3, .int b), (4, .int c), (5, .int y)]) (st' := []) (h' := h) 3 rfl E hG
        replace E := E_lv [(0, .ref 316), (1, .int r), (2, .int a), (3, .int b), (4, .int c), (5, .int y), (6, .int (1 : Int32))] rfl (lvs_c rfl rfl (lvs_c rfl rfl (lvs_c rfl rfl (lvs_c rfl rfl (lvs_c rfl rfl (lvs_c rfl rfl (lvs_c rfl rfl lvs_n))))))) E
        exact Or.inr (Or.inr (Or.inr ⟨c11, c22, c33, _, (by omega), hG, E⟩))
set_option maxRecDepth 100000 in
set_option maxHeartbeats 4000000 in
theorem ym_fd4 {n d : Nat} {h : rk_S} {o : Option Value × rk_S} {r a b c y z : Int32} (hG : yG h) (E : rk_ex n d rm_X8_find 134 [(0, .ref 316), (1, .int r), (2, .int a), (3, .int b), (4, .int c), (5, .int y), (6, .int z)] [] h = some o) :
    (z.toInt = 0 ∧ ∃ m, m < n ∧ yG h ∧ rk_ex m d rm_X8_find 174 [(0, .ref 316), (1, .int r), (2, .int a), (3, .int b), (4, .int c), (5, .int y), (6, .int (0 : Int32))] [] h = some o) ∨
    (¬ (z.toInt = 0) ∧ ((gi h 324 y.toNatClampNeg) &&& (4 : Int32)).toInt = 0 ∧ ∃ m, m < n ∧ yG h ∧ rk_ex m d rm_X8_find 174 [(0, .ref 316), (1, .int r), (2, .int a), (3, .int b), (4, .int c), (5, .int y), (6, .int (1 : Int32))] [] h = some o) ∨
    (¬ (z.toInt = 0) ∧ ¬ (((gi h 324 y.toNatClampNeg) &&& (4 : Int32)).toInt = 0) ∧ ¬ (gi h 325 ((((3 : Int32) * y) + (2 : Int32)).toNatClampNeg)).toInt = c.toInt ∧ ∃ m, m < n ∧ yG h ∧ rk_ex m d rm_X8_find 174 [(0, .ref 316), (1, .int r), (2, .int a), (3, .int b), (4, .int c), (5, .int y), (6, .int (0 : Int32))] [] h = some o) ∨
    (¬ (z.toInt = 0) ∧ ¬ (((gi h 324 y.toNatClampNeg) &&& (4 : Int32)).toInt = 0) ∧ (gi h 325 ((((3 : Int32) * y) + (2 : Int32)).toNatClampNeg)).toInt = c.toInt ∧ ∃ m, m < n ∧ yG h ∧ rk_ex m d rm_X8_find 174 [(0, .ref 316), (1, .int r), (2, .int a), (3, .int b), (4, .int c), (5, .int y), (6, .int (1 : Int32))] [] h = some o) := by
  obtain ⟨m1, hm2, E, hG⟩ := E_go (pc' := 136) (lv' := [(0, .ref 316), (1, .int r), (2, .int a), (3, .int b), (4, .int c), (5, .int y), (6, .int z)]) (st' := [.int z]) (h' := h) 1 rfl E hG
  rcases E_if1 (tg := 171) rfl rfl E with ⟨hc, m3, hm4, E⟩ | ⟨hc, m5, hm6, E⟩
  ·
    have c7 : z.toInt = 0 := hc
    clear hc
    obtain ⟨m8, hm9, E, hG⟩ := E_go (pc' := 174) (lv' := [(6, .int (0 : Int32)), (0, .ref 316), (1, .int r), (2, .int a), (3, .int b), (4, .int c), (5, .int y)]) (st' := []) (h' := h) 2 rfl E hG
    replace E := E_lv [(0, .ref 316), (1, .int r), (2, .int a), (3, .int b), (4, .int c), (5, .int y), (6, .int (0 : Int32))] rfl (lvs_c rfl rfl (lvs_c rfl rfl (lvs_c rfl rfl (lvs_c rfl rfl (lvs_c rfl rfl (lvs_c rfl rfl (lvs_c rfl rfl lvs_n))))))) E
    exact Or.inl ⟨c7, _, (by omega), hG, E⟩
  ·
    have c11 : ¬ (z.toInt = 0) := hc
    clear hc
    obtain ⟨m12, hm13, E, hG⟩ := E_go (pc' := 148) (lv' := [(0, .ref 316), (1, .int r), (2, .int a), (3, .int b), (4, .int c), (5, .int y), (6, .int z)]) (st' := [.int ((gi h 324 y.toNatClampNeg) &&& (4 : Int32))]) (h' := h) 6 rfl E hG
    rcases E_if1 (tg := 167) rfl rfl E with ⟨hc, m14, hm15, E⟩ | ⟨hc, m16, hm17, E⟩
    ·
      have c18 : ((gi h 324 y.toNatClampNeg) &&& (4 : Int32)).toInt = 0 := hc
      clear hc
      obtain ⟨m19, hm20, E, hG⟩ := E_go (pc' := 174) (lv' := [(6, .int (1 : Int32)), (0, .ref 316), (1, .int r), (2, .int a), (3, .int b), (4, .int c), (5, .int y)]) (st' := []) (h' := h) 3 rfl E hG
      replace E := E_lv [(0, .ref 316), (1, .int r), (2, .int a), (3, .int b), (4, .int c), (5, .int y), (6, .int (1 : Int32))] rfl (lvs_c rfl rfl (lvs_c rfl rfl (lvs_c rfl rfl (lvs_c rfl rfl (lvs_c rfl rfl (lvs_c rfl rfl (lvs_c rfl rfl lvs_n))))))) E
      exact Or.inr (Or.inl ⟨c11, c18, _, (by omega), hG, E⟩)
    ·
      have c22 : ¬ (((gi h 324 y.toNatClampNeg) &&& (4 : Int32)).toInt = 0) := hc
      clear hc
      obtain ⟨m23, hm24, E, hG⟩ := E_go (pc' := 164) (lv' := [(0, .ref 316), (1, .int r), (2, .int a), (3, .int b), (4, .int c), (5, .int y), (6, .int z)]) (st' := [.int c, .int (gi h 325 ((((3 : Int32) * y) + (2 : Int32)).toNatClampNeg))]) (h' := h) 9 rfl E hG
      rcases E_if2 (tg := 171) rfl rfl E with ⟨hc, m25, hm26, E⟩ | ⟨hc, m27, hm28, E⟩
      ·
        have c29 : ¬ (gi h 325 ((((3 : Int32) * y) + (2 : Int32)).toNatClampNeg)).toInt = c.toInt := hc
        clear hc
        obtain ⟨m30, hm31, E, hG⟩ := E_go (pc' := 174) (lv' := [(6, .int (0 : Int32)), (0, .ref 316), (1, .int r), (2, .int a), (3, .int b), (4, .int c), (5, .int y)]) (st' := []) (h' := h) 2 rfl E hG
        replace E := E_lv [(0, .ref 316), (1, .int r), (2, .int a), (3, .int b), (4, .int c), (5, .int y), (6, .int (0 : Int32))] rfl (lvs_c rfl rfl (lvs_c rfl rfl (lvs_c rfl rfl (lvs_c rfl rfl (lvs_c rfl rfl (lvs_c rfl rfl (lvs_c rfl rfl lvs_n))))))) E
        exact Or.inr (Or.inr (Or.inl ⟨c11, c22, c29, _, (by omega), hG, E⟩))
      ·
        have c33 : (gi h 325 ((((3 : Int32) * y) + (2 : Int32)).toNatClampNeg)).toInt = c.toInt := Decidable.not_not.mp hc
        clear hc
        obtain ⟨m34, hm35, E, hG⟩ := E_go (pc' := 174) (lv' := [(6, .int (1 : Int32)), (0, .ref 316), (1, .int r), (2, .int a), (3, .int b), (4, .int c), (5, .int y)]) (st' := []) (h' := h) 3 rfl E hG
        replace E := E_lv [(0, .ref 316), (1, .int r), (2, .int a), (3, .int b), (4, .int c), (5, .int y), (6, .int (1 : Int32))] rfl (lvs_c rfl rfl (lvs_c rfl rfl (lvs_c rfl rfl (lvs_c rfl rfl (lvs_c rfl rfl (lvs_c rfl rfl (lvs_c rfl rfl lvs_n))))))) E
        exact Or.inr (Or.inr (Or.inr ⟨c11, c22, c33, _, (by omega), hG, E⟩))
set_option maxRecDepth 100000 in
set_option maxHeartbeats 4000000 in
theorem ym_fd5 {n d : Nat} {h : rk_S} {o : Option Value × rk_S} {r a b c y z : Int32} (hG : yG h) (E : rk_ex n d rm_X8_find 174 [(0, .ref 316), (1, .int r), (2, .int a), (3, .int b), (4, .int c), (5, .int y), (6, .int z)] [] h = some o) :
    (z.toInt = 0 ∧ ∃ m, m < n ∧ yG h ∧ rk_ex m d rm_X8_find 9 [(0, .ref 316), (1, .int r), (2, .int a), (3, .int b), (4, .int c), (5, .int (y + (1 : Int32))), (6, .int z)] [] h = some o) ∨
    (¬ (z.toInt = 0) ∧ yG h ∧ o = (some (.int y), h)) := by
  obtain ⟨m1, hm2, E, hG⟩ := E_go (pc' := 176) (lv' := [(0, .ref 316), (1, .int r), (2, .int a), (3, .int b), (4, .int c), (5, .int y), (6, .int z)]) (st' := [.int z]) (h' := h) 1 rfl E hG
  rcases E_if1 (tg := 182) rfl rfl E with ⟨hc, m3, hm4, E⟩ | ⟨hc, m5, hm6, E⟩
  ·
    have c7 : z.toInt = 0 := hc
    clear hc
    obtain ⟨m8, hm9, E, hG⟩ := E_go (pc' := 9) (lv' := [(5, .int (y + (1 : Int32))), (0, .ref 316), (1, .int r), (2, .int a), (3, .int b), (4, .int c), (6, .int z)]) (st' := []) (h' := h) 2 rfl E hG
    replace E := E_lv [(0, .ref 316), (1, .int r), (2, .int a), (3, .int b), (4, .int c), (5, .int (y + (1 : Int32))), (6, .int z)] rfl (lvs_c rfl rfl (lvs_c rfl rfl (lvs_c rfl rfl (lvs_c rfl rfl (lvs_c rfl rfl (lvs_c rfl rfl (lvs_c rfl rfl lvs_n))))))) E
    exact Or.inl ⟨c7, _, (by omega), hG, E⟩
  ·
    have c11 : ¬ (z.toInt = 0) := hc
    clear hc
    obtain ⟨m12, hm13, E, hG⟩ := E_go (pc' := 181) (lv' := [(0, .ref 316), (1, .int r), (2, .int a), (3, .int b), (4, .int c), (5, .int y), (6, .int z)]) (st' := [.int y]) (h' := h) 1 rfl E hG
    have ho14 := E_reti rfl E
    exact Or.inr ⟨c11, hG, ho14⟩
set_option maxRecDepth 100000 in
set_option maxHeartbeats 4000000 in
theorem ym_as0 {n d : Nat} {h : rk_S} {o : Option Value × rk_S} {y : Int32} (hG : yG h) (E : rk_ex n d rm_X8_areStores 0 [(0, .ref 316), (1, .int y)] [] h = some o) :
    (∃ m, m < n ∧ yG h ∧ rk_ex m d rm_X8_areStores 4 [(0, .ref 316), (1, .int y), (2, .int (1 : Int32)), (3, .int (0 : Int32))] [] h = some o) := by
  obtain ⟨m1, hm2, E, hG⟩ := E_go (pc' := 4) (lv' := [(3, .int (0 : Int32)), (2, .int (1 : Int32)), (0, .ref 316), (1, .int y)]) (st' := []) (h' := h) 4 rfl E hG
  replace E := E_lv [(0, .ref 316), (1, .int y), (2, .int (1 : Int32)), (3, .int (0 : Int32))] rfl (lvs_c rfl rfl (lvs_c rfl rfl (lvs_c rfl rfl (lvs_c rfl rfl lvs_n)))) E
  exact ⟨_, (by omega), hG, E⟩
set_option maxRecDepth 100000 in
set_option maxHeartbeats 4000000 in
theorem ym_as {n d : Nat} {h : rk_S} {o : Option Value × rk_S} {y z j : Int32} (hG : yG h) (E : rk_ex n d rm_X8_areStores 4 [(0, .ref 316), (1, .int y), (2, .int z), (3, .int j)] [] h = some o) :
    (16 ≤ j.toInt ∧ yG h ∧ o = (some (.int z), h)) ∨
    (¬ (16 ≤ j.toInt) ∧ z.toInt = 0 ∧ ∃ m, m < n ∧ yG h ∧ rk_ex m d rm_X8_areStores 4 [(0, .ref 316), (1, .int y), (2, .int (0 : Int32)), (3, .int (j + (1 : Int32)))] [] h = some o) ∨
    (¬ (16 ≤ j.toInt) ∧ ¬ (z.toInt = 0) ∧ (((gi h 326 y.toNatClampNeg) >>> (j &&& 31)) &&& (1 : Int32)).toInt = 0 ∧ ∃ m, m < n ∧ yG h ∧ rk_ex m d rm_X8_areStores 4 [(0, .ref 316), (1, .int y), (2, .int (1 : Int32)), (3, .int (j + (1 : Int32)))] [] h = some o) ∨
    (¬ (16 ≤ j.toInt) ∧ ¬ (z.toInt = 0) ∧ ¬ ((((gi h 326 y.toNatClampNeg) >>> (j &&& 31)) &&& (1 : Int32)).toInt = 0) ∧ ¬ (gi h 327 ((((16 : Int32) * y) + j).toNatClampNeg)).toInt = (gi h 320 ((((16 : Int32) * (gi h 316 21)) + j).toNatClampNeg)).toInt ∧ ∃ m, m < n ∧ yG h ∧ rk_ex m d rm_X8_areStores 4 [(0, .ref 316), (1, .int y), (2, .int (0 : Int32)), (3, .int (j + (1 : Int32)))] [] h = some o) ∨
    (¬ (16 ≤ j.toInt) ∧ ¬ (z.toInt = 0) ∧ ¬ ((((gi h 326 y.toNatClampNeg) >>> (j &&& 31)) &&& (1 : Int32)).toInt = 0) ∧ (gi h 327 ((((16 : Int32) * y) + j).toNatClampNeg)).toInt = (gi h 320 ((((16 : Int32) * (gi h 316 21)) + j).toNatClampNeg)).toInt ∧ ∃ m, m < n ∧ yG h ∧ rk_ex m d rm_X8_areStores 4 [(0, .ref 316), (1, .int y), (2, .int (1 : Int32)), (3, .int (j + (1 : Int32)))] [] h = some o) := by
  obtain ⟨m1, hm2, E, hG⟩ := E_go (pc' := 7) (lv' := [(0, .ref 316), (1, .int y), (2, .int z), (3, .int j)]) (st' := [.int (16 : Int32), .int j]) (h' := h) 2 rfl E hG
  rcases E_if2 (tg := 67) rfl rfl E with ⟨hc, m3, hm4, E⟩ | ⟨hc, m5, hm6, E⟩
  ·
    have c7 : 16 ≤ j.toInt := hc
    clear hc
    obtain ⟨m8, hm9, E, hG⟩ := E_go (pc' := 68) (lv' := [(0, .ref 316), (1, .int y), (2, .int z), (3, .int j)]) (st' := [.int z]) (h' := h) 1 rfl E hG
    have ho10 := E_reti rfl E
    exact Or.inl ⟨c7, hG, ho10⟩
  ·
    have c11 : ¬ (16 ≤ j.toInt) := hc
    clear hc
    obtain ⟨m12, hm13, E, hG⟩ := E_go (pc' := 11) (lv' := [(0, .ref 316), (1, .int y), (2, .int z), (3, .int j)]) (st' := [.int z]) (h' := h) 1 rfl E hG
    rcases E_if1 (tg := 59) rfl rfl E with ⟨hc, m14, hm15, E⟩ | ⟨hc, m16, hm17, E⟩
    ·
      have c18 : z.toInt = 0 := hc
      clear hc
      obtain ⟨m19, hm20, E, hG⟩ := E_go (pc' := 4) (lv' := [(3, .int (j + (1 : Int32))), (2, .int (0 : Int32)), (0, .ref 316), (1, .int y)]) (st' := []) (h' := h) 4 rfl E hG
      replace E := E_lv [(0, .ref 316), (1, .int y), (2, .int (0 : Int32)), (3, .int (j + (1 : Int32)))] rfl (lvs_c rfl rfl (lvs_c rfl rfl (lvs_c rfl rfl (lvs_c rfl rfl lvs_n)))) E
      exact Or.inr (Or.inl ⟨c11, c18, _, (by omega), hG, E⟩)
    ·
      have c22 : ¬ (z.toInt = 0) := hc
      clear hc
      obtain ⟨m23, hm24, E, hG⟩ := E_go (pc' := 24) (lv' := [(0, .ref 316), (1, .int y), (2, .int z), (3, .int j)]) (st' := [.int (((gi h 326 y.toNatClampNeg) >>> (j &&& 31)) &&& (1 : Int32))]) (h' := h) 8 rfl E hG
      rcases E_if1 (tg := 55) rfl rfl E with ⟨hc, m25, hm26, E⟩ | ⟨hc, m27, hm28, E⟩
      ·
        have c29 : (((gi h 326 y.toNatClampNeg) >>> (j &&& 31)) &&& (1 : Int32)).toInt = 0 := hc
        clear hc
        obtain ⟨m30, hm31, E, hG⟩ := E_go (pc' := 4) (lv' := [(3, .int (j + (1 : Int32))), (2, .int (1 : Int32)), (0, .ref 316), (1, .int y)]) (st' := []) (h' := h) 5 rfl E hG
        replace E := E_lv [(0, .ref 316), (1, .int y), (2, .int (1 : Int32)), (3, .int (j + (1 : Int32)))] rfl (lvs_c rfl rfl (lvs_c rfl rfl (lvs_c rfl rfl (lvs_c rfl rfl lvs_n)))) E
        exact Or.inr (Or.inr (Or.inl ⟨c11, c22, c29, _, (by omega), hG, E⟩))
      ·
        have c33 : ¬ ((((gi h 326 y.toNatClampNeg) >>> (j &&& 31)) &&& (1 : Int32)).toInt = 0) := hc
        clear hc
        obtain ⟨m34, hm35, E, hG⟩ := E_go (pc' := 52) (lv' := [(0, .ref 316), (1, .int y), (2, .int z), (3, .int j)]) (st' := [.int (gi h 320 ((((16 : Int32) * (gi h 316 21)) + j).toNatClampNeg)), .int (gi h 327 ((((16 : Int32) * y) + j).toNatClampNeg))]) (h' := h) 17 rfl E hG
        rcases E_if2 (tg := 59) rfl rfl E with ⟨hc, m36, hm37, E⟩ | ⟨hc, m38, hm39, E⟩
        ·
          have c40 : ¬ (gi h 327 ((((16 : Int32) * y) + j).toNatClampNeg)).toInt = (gi h 320 ((((16 : Int32) * (gi h 316 21)) + j).toNatClampNeg)).toInt := hc
          clear hc
          obtain ⟨m41, hm42, E, hG⟩ := E_go (pc' := 4) (lv' := [(3, .int (j + (1 : Int32))), (2, .int (0 : Int32)), (0, .ref 316), (1, .int y)]) (st' := []) (h' := h) 4 rfl E hG
          replace E := E_lv [(0, .ref 316), (1, .int y), (2, .int (0 : Int32)), (3, .int (j + (1 : Int32)))] rfl (lvs_c rfl rfl (lvs_c rfl rfl (lvs_c rfl rfl (lvs_c rfl rfl lvs_n)))) E
          exact Or.inr (Or.inr (Or.inr (Or.inl ⟨c11, c22, c33, c40, _, (by omega), hG, E⟩)))
        ·
          have c44 : (gi h 327 ((((16 : Int32) * y) + j).toNatClampNeg)).toInt = (gi h 320 ((((16 : Int32) * (gi h 316 21)) + j).toNatClampNeg)).toInt := Decidable.not_not.mp hc
          clear hc
          obtain ⟨m45, hm46, E, hG⟩ := E_go (pc' := 4) (lv' := [(3, .int (j + (1 : Int32))), (2, .int (1 : Int32)), (0, .ref 316), (1, .int y)]) (st' := []) (h' := h) 5 rfl E hG
          replace E := E_lv [(0, .ref 316), (1, .int y), (2, .int (1 : Int32)), (3, .int (j + (1 : Int32)))] rfl (lvs_c rfl rfl (lvs_c rfl rfl (lvs_c rfl rfl (lvs_c rfl rfl lvs_n)))) E
          exact Or.inr (Or.inr (Or.inr (Or.inr ⟨c11, c22, c33, c44, _, (by omega), hG, E⟩)))
set_option maxRecDepth 100000 in
set_option maxHeartbeats 4000000 in
theorem ym_kn {n d : Nat} {h : rk_S} {o : Option Value × rk_S} (hG : yG h) (E : rk_ex n d rm_X8_keepNow 0 [(0, .ref 316)] [] h = some o) :
    ((gi h 322 ((gi h 316 21).toNatClampNeg)).toInt < (gi h 316 23).toInt ∧ ∃ m, m < n ∧ yG h ∧ rk_ex m d rm_X8_keepNow 24 [(0, .ref 316)] [] h = some o) ∨
    (¬ ((gi h 322 ((gi h 316 21).toNatClampNeg)).toInt < (gi h 316 23).toInt) ∧ ∃ m, m < n + 1 ∧ yG h ∧ rk_ex m d rm_X8_keepNow 18 [(0, .ref 316)] [.ref 316, .ref 316] h = some o) := by
  obtain ⟨m1, hm2, E, hG⟩ := E_go (pc' := 13) (lv' := [(0, .ref 316)]) (st' := [.int (gi h 316 23), .int (gi h 322 ((gi h 316 21).toNatClampNeg))]) (h' := h) 7 rfl E hG
  rcases E_if2 (tg := 24) rfl rfl E with ⟨hc, m3, hm4, E⟩ | ⟨hc, m5, hm6, E⟩
  ·
    have c7 : (gi h 322 ((gi h 316 21).toNatClampNeg)).toInt < (gi h 316 23).toInt := hc
    clear hc
    exact Or.inl ⟨c7, _, (by omega), hG, E⟩
  ·
    have c9 : ¬ ((gi h 322 ((gi h 316 21).toNatClampNeg)).toInt < (gi h 316 23).toInt) := hc
    clear hc
    obtain ⟨m10, hm11, E, hG⟩ := E_go (pc' := 18) (lv' := [(0, .ref 316)]) (st' := [.ref 316, .ref 316]) (h' := h) 2 rfl E hG
    exact Or.inr ⟨c9, _, (by omega), hG, E⟩
set_option maxRecDepth 100000 in
set_option maxHeartbeats 4000000 in
theorem ym_kn1 {n d : Nat} {h : rk_S} {o : Option Value × rk_S} (hG : yG h) (E : rk_ex n d rm_X8_keepNow 24 [(0, .ref 316)] [] h = some o) :
    (∃ m, m < n ∧ yG (rk_pt (rk_pt (rk_pt (rk_pt h 322 ((gi h 316 21).toNatClampNeg) (.int ((gi h 322 ((gi h 316 21).toNatClampNeg)) + (1 : Int32)))) 323 ((((32 : Int32) * (gi h 316 21)) + (gi h 322 ((gi h 316 21).toNatClampNeg))).toNatClampNeg) (.int (gi h 334 (((gi h 316 24) - (1 : Int32)).toNatClampNeg)))) 324 ((((32 : Int32) * (gi h 316 21)) + (gi h 322 ((gi h 316 21).toNatClampNeg))).toNatClampNeg) (.int (gi h 340 (((gi h 316 24) - (1 : Int32)).toNatClampNeg)))) 326 ((((32 : Int32) * (gi h 316 21)) + (gi h 322 ((gi h 316 21).toNatClampNeg))).toNatClampNeg) (.int (gi h 341 (((gi h 316 24) - (1 : Int32)).toNatClampNeg)))) ∧ rk_ex m d rm_X8_keepNow 98 [(2, .int (((32 : Int32) * (gi h 316 21)) + (gi h 322 ((gi h 316 21).toNatClampNeg)))), (1, .int ((gi h 316 24) - (1 : Int32))), (0, .ref 316)] [] (rk_pt (rk_pt (rk_pt (rk_pt h 322 ((gi h 316 21).toNatClampNeg) (.int ((gi h 322 ((gi h 316 21).toNatClampNeg)) + (1 : Int32)))) 323 ((((32 : Int32) * (gi h 316 21)) + (gi h 322 ((gi h 316 21).toNatClampNeg))).toNatClampNeg) (.int (gi h 334 (((gi h 316 24) - (1 : Int32)).toNatClampNeg)))) 324 ((((32 : Int32) * (gi h 316 21)) + (gi h 322 ((gi h 316 21).toNatClampNeg))).toNatClampNeg) (.int (gi h 340 (((gi h 316 24) - (1 : Int32)).toNatClampNeg)))) 326 ((((32 : Int32) * (gi h 316 21)) + (gi h 322 ((gi h 316 21).toNatClampNeg))).toNatClampNeg) (.int (gi h 341 (((gi h 316 24) - (1 : Int32)).toNatClampNeg)))) = some o) := by
  obtain ⟨m1, hm2, E, hG⟩ := E_go (pc' := 98) (lv' := [(2, .int (((32 : Int32) * (gi h 316 21)) + (gi h 322 ((gi h 316 21).toNatClampNeg)))), (1, .int ((gi h 316 24) - (1 : Int32))), (0, .ref 316)]) (st' := []) (h' := rk_pt (rk_pt (rk_pt (rk_pt h 322 ((gi h 316 21).toNatClampNeg) (.int ((gi h 322 ((gi h 316 21).toNatClampNeg)) + (1 : Int32)))) 323 ((((32 : Int32) * (gi h 316 21)) + (gi h 322 ((gi h 316 21).toNatClampNeg))).toNatClampNeg) (.int (gi (rk_pt h 322 ((gi h 316 21).toNatClampNeg) (.int ((gi h 322 ((gi h 316 21).toNatClampNeg)) + (1 : Int32)))) 334 (((gi h 316 24) - (1 : Int32)).toNatClampNeg)))) 324 ((((32 : Int32) * (gi h 316 21)) + (gi h 322 ((gi h 316 21).toNatClampNeg))).toNatClampNeg) (.int (gi (rk_pt (rk_pt h 322 ((gi h 316 21).toNatClampNeg) (.int ((gi h 322 ((gi h 316 21).toNatClampNeg)) + (1 : Int32)))) 323 ((((32 : Int32) * (gi h 316 21)) + (gi h 322 ((gi h 316 21).toNatClampNeg))).toNatClampNeg) (.int (gi (rk_pt h 322 ((gi h 316 21).toNatClampNeg) (.int ((gi h 322 ((gi h 316 21).toNatClampNeg)) + (1 : Int32)))) 334 (((gi h 316 24) - (1 : Int32)).toNatClampNeg)))) 340 (((gi h 316 24) - (1 : Int32)).toNatClampNeg)))) 326 ((((32 : Int32) * (gi h 316 21)) + (gi h 322 ((gi h 316 21).toNatClampNeg))).toNatClampNeg) (.int (gi (rk_pt (rk_pt (rk_pt h 322 ((gi h 316 21).toNatClampNeg) (.int ((gi h 322 ((gi h 316 21).toNatClampNeg)) + (1 : Int32)))) 323 ((((32 : Int32) * (gi h 316 21)) + (gi h 322 ((gi h 316 21).toNatClampNeg))).toNatClampNeg) (.int (gi (rk_pt h 322 ((gi h 316 21).toNatClampNeg) (.int ((gi h 322 ((gi h 316 21).toNatClampNeg)) + (1 : Int32)))) 334 (((gi h 316 24) - (1 : Int32)).toNatClampNeg)))) 324 ((((32 : Int32) * (gi h 316 21)) + (gi h 322 ((gi h 316 21).toNatClampNeg))).toNatClampNeg) (.int (gi (rk_pt (rk_pt h 322 ((gi h 316 21).toNatClampNeg) (.int ((gi h 322 ((gi h 316 21).toNatClampNeg)) + (1 : Int32)))) 323 ((((32 : Int32) * (gi h 316 21)) + (gi h 322 ((gi h 316 21).toNatClampNeg))).toNatClampNeg) (.int (gi (rk_pt h 322 ((gi h 316 21).toNatClampNeg) (.int ((gi h 322 ((gi h 316 21).toNatClampNeg)) + (1 : Int32)))) 334 (((gi h 316 24) - (1 : Int32)).toNatClampNeg)))) 340 (((gi h 316 24) - (1 : Int32)).toNatClampNeg)))) 341 (((gi h 316 24) - (1 : Int32)).toNatClampNeg)))) 49 rfl E hG
  try simp only [gi_x (a := 322) (a' := 334) (by decide), gi_x (a := 323) (a' := 340) (by decide), gi_x (a := 322) (a' := 340) (by decide), gi_x (a := 324) (a' := 341) (by decide), gi_x (a := 323) (a' := 341) (by decide), gi_x (a := 322) (a' := 341) (by decide)] at E hG
  exact ⟨_, (by omega), hG, E⟩
set_option maxRecDepth 100000 in
set_option maxHeartbeats 4000000 in
theorem ym_kn2 {n d : Nat} {h : rk_S} {o : Option Value × rk_S} {y f : Int32} (hG : yG h) (E : rk_ex n d rm_X8_keepNow 98 [(2, .int y), (1, .int f), (0, .ref 316)] [] h = some o) :
    (¬ (gi h 316 39).toInt = 0 ∧ ∃ m, m < n ∧ yG (rk_pt h 328 y.toNatClampNeg (.int (0 : Int32))) ∧ rk_ex m d rm_X8_keepNow 119 [(2, .int y), (1, .int f), (0, .ref 316)] [] (rk_pt h 328 y.toNatClampNeg (.int (0 : Int32))) = some o) ∨
    ((gi h 316 39).toInt = 0 ∧ ∃ m, m < n ∧ yG (rk_pt h 328 y.toNatClampNeg (.int (gi h 316 41))) ∧ rk_ex m d rm_X8_keepNow 119 [(2, .int y), (1, .int f), (0, .ref 316)] [] (rk_pt h 328 y.toNatClampNeg (.int (gi h 316 41))) = some o) := by
  obtain ⟨m1, hm2, E, hG⟩ := E_go (pc' := 107) (lv' := [(2, .int y), (1, .int f), (0, .ref 316)]) (st' := [.int (gi h 316 39), .int y, .ref 328]) (h' := h) 5 rfl E hG
  rcases E_if1 (tg := 117) rfl rfl E with ⟨hc, m3, hm4, E⟩ | ⟨hc, m5, hm6, E⟩
  ·
    have c7 : ¬ (gi h 316 39).toInt = 0 := hc
    clear hc
    obtain ⟨m8, hm9, E, hG⟩ := E_go (pc' := 119) (lv' := [(2, .int y), (1, .int f), (0, .ref 316)]) (st' := []) (h' := rk_pt h 328 y.toNatClampNeg (.int (0 : Int32))) 2 rfl E hG
    exact Or.inl ⟨c7, _, (by omega), hG, E⟩
  ·
    have c11 : (gi h 316 39).toInt = 0 := Decidable.not_not.mp hc
    clear hc
    obtain ⟨m12, hm13, E, hG⟩ := E_go (pc' := 119) (lv' := [(2, .int y), (1, .int f), (0, .ref 316)]) (st' := []) (h' := rk_pt h 328 y.toNatClampNeg (.int (gi h 316 41))) 4 rfl E hG
    exact Or.inr ⟨c11, _, (by omega), hG, E⟩
set_option maxRecDepth 100000 in
set_option maxHeartbeats 4000000 in
theorem ym_kn3 {n d : Nat} {h : rk_S} {o : Option Value × rk_S} {y f : Int32} (hG : yG h) (E : rk_ex n d rm_X8_keepNow 119 [(2, .int y), (1, .int f), (0, .ref 316)] [] h = some o) :
    (∃ m, m < n ∧ yG (rk_pt (rk_pt (rk_pt (rk_pt (rk_pt (rk_pt h 329 y.toNatClampNeg (.int (gi h 316 39))) 330 y.toNatClampNeg (.int ((gi h 316 34) - (gi h 339 f.toNatClampNeg)))) 331 y.toNatClampNeg (.int (gi h 342 f.toNatClampNeg))) 332 y.toNatClampNeg (.int (0 : Int32))) 333 y.toNatClampNeg (.int (gi h 316 20))) 316 20 (.int ((gi h 316 20) + (1 : Int32)))) ∧ rk_ex m d rm_X8_keepNow 187 [(0, .ref 316), (1, .int f), (2, .int y), (3, .int (0 : Int32))] [] (rk_pt (rk_pt (rk_pt (rk_pt (rk_pt (rk_pt h 329 y.toNatClampNeg (.int (gi h 316 39))) 330 y.toNatClampNeg (.int ((gi h 316 34) - (gi h 339 f.toNatClampNeg)))) 331 y.toNatClampNeg (.int (gi h 342 f.toNatClampNeg))) 332 y.toNatClampNeg (.int (0 : Int32))) 333 y.toNatClampNeg (.int (gi h 316 20))) 316 20 (.int ((gi h 316 20) + (1 : Int32)))) = some o) := by
  obtain ⟨m1, hm2, E, hG⟩ := E_go (pc' := 187) (lv' := [(3, .int (0 : Int32)), (2, .int y), (1, .int f), (0, .ref 316)]) (st' := []) (h' := rk_pt (rk_pt (rk_pt (rk_pt (rk_pt (rk_pt h 329 y.toNatClampNeg (.int (gi h 316 39))) 330 y.toNatClampNeg (.int ((gi (rk_pt h 329 y.toNatClampNeg (.int (gi h 316 39))) 316 34) - (gi (rk_pt h 329 y.toNatClampNeg (.int (gi h 316 39))) 339 f.toNatClampNeg)))) 331 y.toNatClampNeg (.int (gi (rk_pt (rk_pt h 329 y.toNatClampNeg (.int (gi h 316 39))) 330 y.toNatClampNeg (.int ((gi (rk_pt h 329 y.toNatClampNeg (.int (gi h 316 39))) 316 34) - (gi (rk_pt h 329 y.toNatClampNeg (.int (gi h 316 39))) 339 f.toNatClampNeg)))) 342 f.toNatClampNeg))) 332 y.toNatClampNeg (.int (0 : Int32))) 333 y.toNatClampNeg (.int (gi (rk_pt (rk_pt (rk_pt (rk_pt h 329 y.toNatClampNeg (.int (gi h 316 39))) 330 y.toNatClampNeg (.int ((gi (rk_pt h 329 y.toNatClampNeg (.int (gi h 316 39))) 316 34) - (gi (rk_pt h 329 y.toNatClampNeg (.int (gi h 316 39))) 339 f.toNatClampNeg)))) 331 y.toNatClampNeg (.int (gi (rk_pt (rk_pt h 329 y.toNatClampNeg (.int (gi h 316 39))) 330 y.toNatClampNeg (.int ((gi (rk_pt h 329 y.toNatClampNeg (.int (gi h 316 39))) 316 34) - (gi (rk_pt h 329 y.toNatClampNeg (.int (gi h 316 39))) 339 f.toNatClampNeg)))) 342 f.toNatClampNeg))) 332 y.toNatClampNeg (.int (0 : Int32))) 316 20))) 316 20 (.int ((gi (rk_pt (rk_pt (rk_pt (rk_pt (rk_pt h 329 y.toNatClampNeg (.int (gi h 316 39))) 330 y.toNatClampNeg (.int ((gi (rk_pt h 329 y.toNatClampNeg (.int (gi h 316 39))) 316 34) - (gi (rk_pt h 329 y.toNatClampNeg (.int (gi h 316 39))) 339 f.toNatClampNeg)))) 331 y.toNatClampNeg (.int (gi (rk_pt (rk_pt h 329 y.toNatClampNeg (.int (gi h 316 39))) 330 y.toNatClampNeg (.int ((gi (rk_pt h 329 y.toNatClampNeg (.int (gi h 316 39))) 316 34) - (gi (rk_pt h 329 y.toNatClampNeg (.int (gi h 316 39))) 339 f.toNatClampNeg)))) 342 f.toNatClampNeg))) 332 y.toNatClampNeg (.int (0 : Int32))) 333 y.toNatClampNeg (.int (gi (rk_pt (rk_pt (rk_pt (rk_pt h 329 y.toNatClampNeg (.int (gi h 316 39))) 330 y.toNatClampNeg (.int ((gi (rk_pt h 329 y.toNatClampNeg (.int (gi h 316 39))) 316 34) - (gi (rk_pt h 329 y.toNatClampNeg (.int (gi h 316 39))) 339 f.toNatClampNeg)))) 331 y.toNatClampNeg (.int (gi (rk_pt (rk_pt h 329 y.toNatClampNeg (.int (gi h 316 39))) 330 y.toNatClampNeg (.int ((gi (rk_pt h 329 y.toNatClampNeg (.int (gi h 316 39))) 316 34) - (gi (rk_pt h 329 y.toNatClampNeg (.int (gi h 316 39))) 339 f.toNatClampNeg)))) 342 f.toNatClampNeg))) 332 y.toNatClampNeg (.int (0 : Int32))) 316 20))) 316 20) + (1 : Int32)))) 44 rfl E hG
  try simp only [gi_x (a := 329) (a' := 316) (by decide), gi_x (a := 329) (a' := 339) (by decide), gi_x (a := 330) (a' := 342) (by decide), gi_x (a := 329) (a' := 342) (by decide), gi_x (a := 332) (a' := 316) (by decide), gi_x (a := 331) (a' := 316) (by decide), gi_x (a := 330) (a' := 316) (by decide), gi_x (a := 333) (a' := 316) (by decide)] at E hG
  replace E := E_lv [(0, .ref 316), (1, .int f), (2, .int y), (3, .int (0 : Int32))] rfl (lvs_c rfl rfl (lvs_c rfl rfl (lvs_c rfl rfl (lvs_c rfl rfl lvs_n)))) E
  exact ⟨_, (by omega), hG, E⟩
set_option maxRecDepth 100000 in
set_option maxHeartbeats 4000000 in
theorem ym_kn4 {n d : Nat} {h : rk_S} {o : Option Value × rk_S} {y f j : Int32} (hG : yG h) (E : rk_ex n d rm_X8_keepNow 187 [(0, .ref 316), (1, .int f), (2, .int y), (3, .int j)] [] h = some o) :
    (3 ≤ j.toInt ∧ ∃ m, m < n ∧ yG h ∧ rk_ex m d rm_X8_keepNow 238 [(0, .ref 316), (1, .int f), (2, .int y), (3, .int (0 : Int32))] [] h = some o) ∨
    (¬ (3 ≤ j.toInt) ∧ ¬ (((gi h 340 f.toNatClampNeg) >>> (j &&& 31)) &&& (1 : Int32)).toInt = 1 ∧ ∃ m, m < n ∧ yG (rk_pt h 325 ((((3 : Int32) * y) + j).toNatClampNeg) (.int (0 : Int32))) ∧ rk_ex m d rm_X8_keepNow 187 [(0, .ref 316), (1, .int f), (2, .int y), (3, .int (j + (1 : Int32)))] [] (rk_pt h 325 ((((3 : Int32) * y) + j).toNatClampNeg) (.int (0 : Int32))) = some o) ∨
    (¬ (3 ≤ j.toInt) ∧ (((gi h 340 f.toNatClampNeg) >>> (j &&& 31)) &&& (1 : Int32)).toInt = 1 ∧ ∃ m, m < n ∧ yG (rk_pt h 325 ((((3 : Int32) * y) + j).toNatClampNeg) (.int (gi h 336 ((((3 : Int32) * f) + j).toNatClampNeg)))) ∧ rk_ex m d rm_X8_keepNow 187 [(0, .ref 316), (1, .int f), (2, .int y), (3, .int (j + (1 : Int32)))] [] (rk_pt h 325 ((((3 : Int32) * y) + j).toNatClampNeg) (.int (gi h 336 ((((3 : Int32) * f) + j).toNatClampNeg)))) = some o) := by
  obtain ⟨m1, hm2, E, hG⟩ := E_go (pc' := 189) (lv' := [(0, .ref 316), (1, .int f), (2, .int y), (3, .int j)]) (st' := [.int (3 : Int32), .int j]) (h' := h) 2 rfl E hG
  rcases E_if2 (tg := 236) rfl rfl E with ⟨hc, m3, hm4, E⟩ | ⟨hc, m5, hm6, E⟩
  ·
    have c7 : 3 ≤ j.toInt := hc
    clear hc
    obtain ⟨m8, hm9, E, hG⟩ := E_go (pc' := 238) (lv' := [(3, .int (0 : Int32)), (0, .ref 316), (1, .int f), (2, .int y)]) (st' := []) (h' := h) 2 rfl E hG
    replace E := E_lv [(0, .ref 316), (1, .int f), (2, .int y), (3, .int (0 : Int32))] rfl (lvs_c rfl rfl (lvs_c rfl rfl (lvs_c rfl rfl (lvs_c rfl rfl lvs_n)))) E
    exact Or.inl ⟨c7, _, (by omega), hG, E⟩
  ·
    have c11 : ¬ (3 ≤ j.toInt) := hc
    clear hc
    obtain ⟨m12, hm13, E, hG⟩ := E_go (pc' := 212) (lv' := [(0, .ref 316), (1, .int f), (2, .int y), (3, .int j)]) (st' := [.int (1 : Int32), .int (((gi h 340 f.toNatClampNeg) >>> (j &&& 31)) &&& (1 : Int32)), .int (((3 : Int32) * y) + j), .ref 325]) (h' := h) 16 rfl E hG
    rcases E_if2 (tg := 228) rfl rfl E with ⟨hc, m14, hm15, E⟩ | ⟨hc, m16, hm17, E⟩
    ·
      have c18 : ¬ (((gi h 340 f.toNatClampNeg) >>> (j &&& 31)) &&& (1 : Int32)).toInt = 1 := hc
      clear hc
      obtain ⟨m19, hm20, E, hG⟩ := E_go (pc' := 187) (lv' := [(3, .int (j + (1 : Int32))), (0, .ref 316), (1, .int f), (2, .int y)]) (st' := []) (h' := rk_pt h 325 ((((3 : Int32) * y) + j).toNatClampNeg) (.int (0 : Int32))) 4 rfl E hG
      replace E := E_lv [(0, .ref 316), (1, .int f), (2, .int y), (3, .int (j + (1 : Int32)))] rfl (lvs_c rfl rfl (lvs_c rfl rfl (lvs_c rfl rfl (lvs_c rfl rfl lvs_n)))) E
      exact Or.inr (Or.inl ⟨c11, c18, _, (by omega), hG, E⟩)
    ·
      have c22 : (((gi h 340 f.toNatClampNeg) >>> (j &&& 31)) &&& (1 : Int32)).toInt = 1 := Decidable.not_not.mp hc
      clear hc
      obtain ⟨m23, hm24, E, hG⟩ := E_go (pc' := 187) (lv' := [(3, .int (j + (1 : Int32))), (0, .ref 316), (1, .int f), (2, .int y)]) (st' := []) (h' := rk_pt h 325 ((((3 : Int32) * y) + j).toNatClampNeg) (.int (gi h 336 ((((3 : Int32) * f) + j).toNatClampNeg)))) 12 rfl E hG
      replace E := E_lv [(0, .ref 316), (1, .int f), (2, .int y), (3, .int (j + (1 : Int32)))] rfl (lvs_c rfl rfl (lvs_c rfl rfl (lvs_c rfl rfl (lvs_c rfl rfl lvs_n)))) E
      exact Or.inr (Or.inr ⟨c11, c22, _, (by omega), hG, E⟩)
set_option maxRecDepth 100000 in
set_option maxHeartbeats 4000000 in
theorem ym_kn5 {n d : Nat} {h : rk_S} {o : Option Value × rk_S} {y f j : Int32} (hG : yG h) (E : rk_ex n d rm_X8_keepNow 238 [(0, .ref 316), (1, .int f), (2, .int y), (3, .int j)] [] h = some o) :
    (16 ≤ j.toInt ∧ yG h ∧ o = (none, h)) ∨
    (¬ (16 ≤ j.toInt) ∧ ¬ (((gi h 341 f.toNatClampNeg) >>> (j &&& 31)) &&& (1 : Int32)).toInt = 1 ∧ ∃ m, m < n ∧ yG (rk_pt h 327 ((((16 : Int32) * y) + j).toNatClampNeg) (.int (0 : Int32))) ∧ rk_ex m d rm_X8_keepNow 238 [(0, .ref 316), (1, .int f), (2, .int y), (3, .int (j + (1 : Int32)))] [] (rk_pt h 327 ((((16 : Int32) * y) + j).toNatClampNeg) (.int (0 : Int32))) = some o) ∨
    (¬ (16 ≤ j.toInt) ∧ (((gi h 341 f.toNatClampNeg) >>> (j &&& 31)) &&& (1 : Int32)).toInt = 1 ∧ ∃ m, m < n ∧ yG (rk_pt h 327 ((((16 : Int32) * y) + j).toNatClampNeg) (.int (gi h 320 ((((16 : Int32) * (gi h 316 21)) + j).toNatClampNeg)))) ∧ rk_ex m d rm_X8_keepNow 238 [(0, .ref 316), (1, .int f), (2, .int y), (3, .int (j + (1 : Int32)))] [] (rk_pt h 327 ((((16 : Int32) * y) + j).toNatClampNeg) (.int (gi h 320 ((((16 : Int32) * (gi h 316 21)) + j).toNatClampNeg)))) = some o) := by
  obtain ⟨m1, hm2, E, hG⟩ := E_go (pc' := 241) (lv' := [(0, .ref 316), (1, .int f), (2, .int y), (3, .int j)]) (st' := [.int (16 : Int32), .int j]) (h' := h) 2 rfl E hG
  rcases E_if2 (tg := 293) rfl rfl E with ⟨hc, m3, hm4, E⟩ | ⟨hc, m5, hm6, E⟩
  ·
    have c7 : 16 ≤ j.toInt := hc
    clear hc
    have ho8 := E_retv rfl E
    exact Or.inl ⟨c7, hG, ho8⟩
  ·
    have c9 : ¬ (16 ≤ j.toInt) := hc
    clear hc
    obtain ⟨m10, hm11, E, hG⟩ := E_go (pc' := 265) (lv' := [(0, .ref 316), (1, .int f), (2, .int y), (3, .int j)]) (st' := [.int (1 : Int32), .int (((gi h 341 f.toNatClampNeg) >>> (j &&& 31)) &&& (1 : Int32)), .int (((16 : Int32) * y) + j), .ref 327]) (h' := h) 16 rfl E hG
    rcases E_if2 (tg := 285) rfl rfl E with ⟨hc, m12, hm13, E⟩ | ⟨hc, m14, hm15, E⟩
    ·
      have c16 : ¬ (((gi h 341 f.toNatClampNeg) >>> (j &&& 31)) &&& (1 : Int32)).toInt = 1 := hc
      clear hc
      obtain ⟨m17, hm18, E, hG⟩ := E_go (pc' := 238) (lv' := [(3, .int (j + (1 : Int32))), (0, .ref 316), (1, .int f), (2, .int y)]) (st' := []) (h' := rk_pt h 327 ((((16 : Int32) * y) + j).toNatClampNeg) (.int (0 : Int32))) 4 rfl E hG
      replace E := E_lv [(0, .ref 316), (1, .int f), (2, .int y), (3, .int (j + (1 : Int32)))] rfl (lvs_c rfl rfl (lvs_c rfl rfl (lvs_c rfl rfl (lvs_c rfl rfl lvs_n)))) E
      exact Or.inr (Or.inl ⟨c9, c16, _, (by omega), hG, E⟩)
    ·
      have c20 : (((gi h 341 f.toNatClampNeg) >>> (j &&& 31)) &&& (1 : Int32)).toInt = 1 := Decidable.not_not.mp hc
      clear hc
      obtain ⟨m21, hm22, E, hG⟩ := E_go (pc' := 238) (lv' := [(3, .int (j + (1 : Int32))), (0, .ref 316), (1, .int f), (2, .int y)]) (st' := []) (h' := rk_pt h 327 ((((16 : Int32) * y) + j).toNatClampNeg) (.int (gi h 320 ((((16 : Int32) * (gi h 316 21)) + j).toNatClampNeg)))) 13 rfl E hG
      replace E := E_lv [(0, .ref 316), (1, .int f), (2, .int y), (3, .int (j + (1 : Int32)))] rfl (lvs_c rfl rfl (lvs_c rfl rfl (lvs_c rfl rfl (lvs_c rfl rfl lvs_n)))) E
      exact Or.inr (Or.inr ⟨c9, c20, _, (by omega), hG, E⟩)
set_option maxRecDepth 100000 in
set_option maxHeartbeats 4000000 in
theorem ym_gs0 {n d : Nat} {h : rk_S} {o : Option Value × rk_S} (hG : yG h) (E : rk_ex n d rm_X8_goes 0 [(0, .ref 316)] [] h = some o) :
    (∃ m, m < n ∧ yG h ∧ rk_ex m d rm_X8_goes 12 [(0, .ref 316), (1, .int ((32 : Int32) * (gi h 316 21))), (2, .int ((32 : Int32) * (gi h 316 21))), (3, .int ((32 : Int32) * (gi h 316 21))), (4, .int (0 : Int32))] [] h = some o) := by
  obtain ⟨m1, hm2, E, hG⟩ := E_go (pc' := 12) (lv' := [(3, .int ((32 : Int32) * (gi h 316 21))), (2, .int ((32 : Int32) * (gi h 316 21))), (1, .int ((32 : Int32) * (gi h 316 21))), (0, .ref 316)]) (st' := []) (h' := h) 9 rfl E hG
  replace E := E_lv [(0, .ref 316), (1, .int ((32 : Int32) * (gi h 316 21))), (2, .int ((32 : Int32) * (gi h 316 21))), (3, .int ((32 : Int32) * (gi h 316 21))), (4, .int (0 : Int32))] rfl (lvs_c rfl rfl (lvs_c rfl rfl (lvs_c rfl rfl (lvs_c rfl rfl lvs_n)))) E
  exact ⟨_, (by omega), hG, E⟩
set_option maxRecDepth 100000 in
set_option maxHeartbeats 4000000 in
theorem ym_gs {n d : Nat} {h : rk_S} {o : Option Value × rk_S} {w g y z : Int32} (hG : yG h) (E : rk_ex n d rm_X8_goes 12 [(0, .ref 316), (1, .int w), (2, .int g), (3, .int y), (4, .int z)] [] h = some o) :
    ((w + (gi h 322 ((gi h 316 21).toNatClampNeg))).toInt ≤ y.toInt ∧ yG h ∧ o = (some (.int g), h)) ∨
    (¬ ((w + (gi h 322 ((gi h 316 21).toNatClampNeg))).toInt ≤ y.toInt) ∧ ¬ (gi h 316 5).toInt = 0 ∧ ¬ (gi h 316 5).toInt = 2 ∧ ∃ m, m < n ∧ yG h ∧ rk_ex m d rm_X8_goes 12 [(0, .ref 316), (1, .int w), (2, .int g), (3, .int (y + (1 : Int32))), (4, .int (0 : Int32))] [] h = some o) ∨
    (¬ ((w + (gi h 322 ((gi h 316 21).toNatClampNeg))).toInt ≤ y.toInt) ∧ ¬ (gi h 316 5).toInt = 0 ∧ (gi h 316 5).toInt = 2 ∧ (gi h 330 g.toNatClampNeg).toInt ≤ (gi h 330 y.toNatClampNeg).toInt ∧ ∃ m, m < n ∧ yG h ∧ rk_ex m d rm_X8_goes 12 [(0, .ref 316), (1, .int w), (2, .int g), (3, .int (y + (1 : Int32))), (4, .int (0 : Int32))] [] h = some o) ∨
    (¬ ((w + (gi h 322 ((gi h 316 21).toNatClampNeg))).toInt ≤ y.toInt) ∧ ¬ (gi h 316 5).toInt = 0 ∧ (gi h 316 5).toInt = 2 ∧ ¬ ((gi h 330 g.toNatClampNeg).toInt ≤ (gi h 330 y.toNatClampNeg).toInt) ∧ ∃ m, m < n ∧ yG h ∧ rk_ex m d rm_X8_goes 12 [(0, .ref 316), (1, .int w), (2, .int y), (3, .int (y + (1 : Int32))), (4, .int (1 : Int32))] [] h = some o) ∨
    (¬ ((w + (gi h 322 ((gi h 316 21).toNatClampNeg))).toInt ≤ y.toInt) ∧ (gi h 316 5).toInt = 0 ∧ (gi h 333 g.toNatClampNeg).toInt ≤ (gi h 333 y.toNatClampNeg).toInt ∧ ∃ m, m < n ∧ yG h ∧ rk_ex m d rm_X8_goes 12 [(0, .ref 316), (1, .int w), (2, .int g), (3, .int (y + (1 : Int32))), (4, .int (0 : Int32))] [] h = some o) ∨
    (¬ ((w + (gi h 322 ((gi h 316 21).toNatClampNeg))).toInt ≤ y.toInt) ∧ (gi h 316 5).toInt = 0 ∧ ¬ ((gi h 333 g.toNatClampNeg).toInt ≤ (gi h 333 y.toNatClampNeg).toInt) ∧ ∃ m, m < n ∧ yG h ∧ rk_ex m d rm_X8_goes 12 [(0, .ref 316), (1, .int w), (2, .int y), (3, .int (y + (1 : Int32))), (4, .int (1 : Int32))] [] h = some o) := by
  obtain ⟨m1, hm2, E, hG⟩ := E_go (pc' := 24) (lv' := [(0, .ref 316), (1, .int w), (2, .int g), (3, .int y), (4, .int z)]) (st' := [.int (w + (gi h 322 ((gi h 316 21).toNatClampNeg))), .int y]) (h' := h) 8 rfl E hG
  rcases E_if2 (tg := 104) rfl rfl E with ⟨hc, m3, hm4, E⟩ | ⟨hc, m5, hm6, E⟩
  ·
    have c7 : (w + (gi h 322 ((gi h 316 21).toNatClampNeg))).toInt ≤ y.toInt := hc
    clear hc
    obtain ⟨m8, hm9, E, hG⟩ := E_go (pc' := 105) (lv' := [(0, .ref 316), (1, .int w), (2, .int g), (3, .int y), (4, .int z)]) (st' := [.int g]) (h' := h) 1 rfl E hG
    have ho10 := E_reti rfl E
    exact Or.inl ⟨c7, hG, ho10⟩
  ·
    have c11 : ¬ ((w + (gi h 322 ((gi h 316 21).toNatClampNeg))).toInt ≤ y.toInt) := hc
    clear hc
    obtain ⟨m12, hm13, E, hG⟩ := E_go (pc' := 31) (lv' := [(0, .ref 316), (1, .int w), (2, .int g), (3, .int y), (4, .int z)]) (st' := [.int (gi h 316 5)]) (h' := h) 2 rfl E hG
    rcases E_if1 (tg := 57) rfl rfl E with ⟨hc, m14, hm15, E⟩ | ⟨hc, m16, hm17, E⟩
    ·
      have c18 : ¬ (gi h 316 5).toInt = 0 := hc
      clear hc
      obtain ⟨m19, hm20, E, hG⟩ := E_go (pc' := 62) (lv' := [(0, .ref 316), (1, .int w), (2, .int g), (3, .int y), (4, .int z)]) (st' := [.int (2 : Int32), .int (gi h 316 5)]) (h' := h) 3 rfl E hG
      rcases E_if2 (tg := 84) rfl rfl E with ⟨hc, m21, hm22, E⟩ | ⟨hc, m23, hm24, E⟩
      ·
        have c25 : ¬ (gi h 316 5).toInt = 2 := hc
        clear hc
        obtain ⟨m26, hm27, E, hG⟩ := E_go (pc' := 89) (lv' := [(4, .int (0 : Int32)), (0, .ref 316), (1, .int w), (2, .int g), (3, .int y)]) (st' := [.int (0 : Int32)]) (h' := h) 3 rfl E hG
        rcases E_if1 (tg := 96) rfl rfl E with ⟨hc, m28, hm29, E⟩ | ⟨hc, m30, hm31, E⟩
        ·
          clear hc
          obtain ⟨m32, hm33, E, hG⟩ := E_go (pc' := 12) (lv' := [(3, .int (y + (1 : Int32))), (2, .int g), (4, .int (0 : Int32)), (0, .ref 316), (1, .int w)]) (st' := []) (h' := h) 4 rfl E hG
          replace E := E_lv [(0, .ref 316), (1, .int w), (2, .int g), (3, .int (y + (1 : Int32))), (4, .int (0 : Int32))] rfl (lvs_c rfl rfl (lvs_c rfl rfl (lvs_c rfl rfl (lvs_c rfl rfl (lvs_c rfl rfl lvs_n))))) E
          exact Or.inr (Or.inl ⟨c11, c18, c25, _, (by omega), hG, E⟩)
        · exact absurd (show ¬ ((0 : Int) = 0) from hc) (by decide)
      ·
        have c35 : (gi h 316 5).toInt = 2 := Decidable.not_not.mp hc
        clear hc
        obtain ⟨m36, hm37, E, hG⟩ := E_go (pc' := 77) (lv' := [(0, .ref 316), (1, .int w), (2, .int g), (3, .int y), (4, .int z)]) (st' := [.int (gi h 330 g.toNatClampNeg), .int (gi h 330 y.toNatClampNeg)]) (h' := h) 8 rfl E hG
        rcases E_if2 (tg := 84) rfl rfl E with ⟨hc, m38, hm39, E⟩ | ⟨hc, m40, hm41, E⟩
        ·
          have c42 : (gi h 330 g.toNatClampNeg).toInt ≤ (gi h 330 y.toNatClampNeg).toInt := hc
          clear hc
          obtain ⟨m43, hm44, E, hG⟩ := E_go (pc' := 89) (lv' := [(4, .int (0 : Int32)), (0, .ref 316), (1, .int w), (2, .int g), (3, .int y)]) (st' := [.int (0 : Int32)]) (h' := h) 3 rfl E hG
          rcases E_if1 (tg := 96) rfl rfl E with ⟨hc, m45, hm46, E⟩ | ⟨hc, m47, hm48, E⟩
          ·
            clear hc
            obtain ⟨m49, hm50, E, hG⟩ := E_go (pc' := 12) (lv' := [(3, .int (y + (1 : Int32))), (2, .int g), (4, .int (0 : Int32)), (0, .ref 316), (1, .int w)]) (st' := []) (h' := h) 4 rfl E hG
            replace E := E_lv [(0, .ref 316), (1, .int w), (2, .int g), (3, .int (y + (1 : Int32))), (4, .int (0 : Int32))] rfl (lvs_c rfl rfl (lvs_c rfl rfl (lvs_c rfl rfl (lvs_c rfl rfl (lvs_c rfl rfl lvs_n))))) E
            exact Or.inr (Or.inr (Or.inl ⟨c11, c18, c35, c42, _, (by omega), hG, E⟩))
          · exact absurd (show ¬ ((0 : Int) = 0) from hc) (by decide)
        ·
          have c52 : ¬ ((gi h 330 g.toNatClampNeg).toInt ≤ (gi h 330 y.toNatClampNeg).toInt) := hc
          clear hc
          obtain ⟨m53, hm54, E, hG⟩ := E_go (pc' := 89) (lv' := [(4, .int (1 : Int32)), (0, .ref 316), (1, .int w), (2, .int g), (3, .int y)]) (st' := [.int (1 : Int32)]) (h' := h) 4 rfl E hG
          rcases E_if1 (tg := 96) rfl rfl E with ⟨hc, m55, hm56, E⟩ | ⟨hc, m57, hm58, E⟩
          · exact absurd (show (1 : Int) = 0 from hc) (by decide)
          ·
            clear hc
            obtain ⟨m59, hm60, E, hG⟩ := E_go (pc' := 12) (lv' := [(3, .int (y + (1 : Int32))), (2, .int y), (4, .int (1 : Int32)), (0, .ref 316), (1, .int w)]) (st' := []) (h' := h) 5 rfl E hG
            replace E := E_lv [(0, .ref 316), (1, .int w), (2, .int y), (3, .int (y + (1 : Int32))), (4, .int (1 : Int32))] rfl (lvs_c rfl rfl (lvs_c rfl rfl (lvs_c rfl rfl (lvs_c rfl rfl (lvs_c rfl rfl lvs_n))))) E
            exact Or.inr (Or.inr (Or.inr (Or.inl ⟨c11, c18, c35, c52, _, (by omega), hG, E⟩)))
    ·
      have c62 : (gi h 316 5).toInt = 0 := Decidable.not_not.mp hc
      clear hc
      obtain ⟨m63, hm64, E, hG⟩ := E_go (pc' := 46) (lv' := [(0, .ref 316), (1, .int w), (2, .int g), (3, .int y), (4, .int z)]) (st' := [.int (gi h 333 g.toNatClampNeg), .int (gi h 333 y.toNatClampNeg)]) (h' := h) 8 rfl E hG
      rcases E_if2 (tg := 53) rfl rfl E with ⟨hc, m65, hm66, E⟩ | ⟨hc, m67, hm68, E⟩
      ·
        have c69 : (gi h 333 g.toNatClampNeg).toInt ≤ (gi h 333 y.toNatClampNeg).toInt := hc
        clear hc
        obtain ⟨m70, hm71, E, hG⟩ := E_go (pc' := 89) (lv' := [(4, .int (0 : Int32)), (0, .ref 316), (1, .int w), (2, .int g), (3, .int y)]) (st' := [.int (0 : Int32)]) (h' := h) 4 rfl E hG
        rcases E_if1 (tg := 96) rfl rfl E with ⟨hc, m72, hm73, E⟩ | ⟨hc, m74, hm75, E⟩
        ·
          clear hc
          obtain ⟨m76, hm77, E, hG⟩ := E_go (pc' := 12) (lv' := [(3, .int (y + (1 : Int32))), (2, .int g), (4, .int (0 : Int32)), (0, .ref 316), (1, .int w)]) (st' := []) (h' := h) 4 rfl E hG
          replace E := E_lv [(0, .ref 316), (1, .int w), (2, .int g), (3, .int (y + (1 : Int32))), (4, .int (0 : Int32))] rfl (lvs_c rfl rfl (lvs_c rfl rfl (lvs_c rfl rfl (lvs_c rfl rfl (lvs_c rfl rfl lvs_n))))) E
          exact Or.inr (Or.inr (Or.inr (Or.inr (Or.inl ⟨c11, c62, c69, _, (by omega), hG, E⟩))))
        · exact absurd (show ¬ ((0 : Int) = 0) from hc) (by decide)
      ·
        have c79 : ¬ ((gi h 333 g.toNatClampNeg).toInt ≤ (gi h 333 y.toNatClampNeg).toInt) := hc
        clear hc
        obtain ⟨m80, hm81, E, hG⟩ := E_go (pc' := 89) (lv' := [(4, .int (1 : Int32)), (0, .ref 316), (1, .int w), (2, .int g), (3, .int y)]) (st' := [.int (1 : Int32)]) (h' := h) 4 rfl E hG
        rcases E_if1 (tg := 96) rfl rfl E with ⟨hc, m82, hm83, E⟩ | ⟨hc, m84, hm85, E⟩
        · exact absurd (show (1 : Int) = 0 from hc) (by decide)
        ·
          clear hc
          obtain ⟨m86, hm87, E, hG⟩ := E_go (pc' := 12) (lv' := [(3, .int (y + (1 : Int32))), (2, .int y), (4, .int (1 : Int32)), (0, .ref 316), (1, .int w)]) (st' := []) (h' := h) 5 rfl E hG
          replace E := E_lv [(0, .ref 316), (1, .int w), (2, .int y), (3, .int (y + (1 : Int32))), (4, .int (1 : Int32))] rfl (lvs_c rfl rfl (lvs_c rfl rfl (lvs_c rfl rfl (lvs_c rfl rfl (lvs_c rfl rfl lvs_n))))) E
          exact Or.inr (Or.inr (Or.inr (Or.inr (Or.inr ⟨c11, c62, c79, _, (by omega), hG, E⟩))))
set_option maxRecDepth 100000 in
set_option maxHeartbeats 4000000 in
theorem ym_lg0 {n d : Nat} {h : rk_S} {o : Option Value × rk_S} {y : Int32} (hG : yG h) (E : rk_ex n d rm_X8_letGo 0 [(0, .ref 316), (1, .int y)] [] h = some o) :
    (∃ m, m < n ∧ yG (rk_pt h 322 ((gi h 316 21).toNatClampNeg) (.int ((gi h 322 ((gi h 316 21).toNatClampNeg)) - (1 : Int32)))) ∧ rk_ex m d rm_X8_letGo 15 [(0, .ref 316), (1, .int y), (2, .int y)] [] (rk_pt h 322 ((gi h 316 21).toNatClampNeg) (.int ((gi h 322 ((gi h 316 21).toNatClampNeg)) - (1 : Int32)))) = some o) := by
  obtain ⟨m1, hm2, E, hG⟩ := E_go (pc' := 15) (lv' := [(2, .int y), (0, .ref 316), (1, .int y)]) (st' := []) (h' := rk_pt h 322 ((gi h 316 21).toNatClampNeg) (.int ((gi h 322 ((gi h 316 21).toNatClampNeg)) - (1 : Int32)))) 11 rfl E hG
  replace E := E_lv [(0, .ref 316), (1, .int y), (2, .int y)] rfl (lvs_c rfl rfl (lvs_c rfl rfl (lvs_c rfl rfl lvs_n))) E
  exact ⟨_, (by omega), hG, E⟩
set_option maxRecDepth 100000 in
set_option maxHeartbeats 4000000 in
theorem ym_lg {n d : Nat} {h : rk_S} {o : Option Value × rk_S} {y j : Int32} (hG : yG h) (E : rk_ex n d rm_X8_letGo 15 [(0, .ref 316), (1, .int y), (2, .int j)] [] h = some o) :
    ((((32 : Int32) * (gi h 316 21)) + (gi h 322 ((gi h 316 21).toNatClampNeg))).toInt ≤ j.toInt ∧ yG h ∧ o = (none, h)) ∨
    (¬ ((((32 : Int32) * (gi h 316 21)) + (gi h 322 ((gi h 316 21).toNatClampNeg))).toInt ≤ j.toInt) ∧ ∃ m, m < n + 1 ∧ yG h ∧ rk_ex m d rm_X8_letGo 41 [(0, .ref 316), (1, .int y), (2, .int j)] [.int j, .int (j + (1 : Int32)), .ref 316] h = some o) := by
  obtain ⟨m1, hm2, E, hG⟩ := E_go (pc' := 33) (lv' := [(0, .ref 316), (1, .int y), (2, .int j)]) (st' := [.int (((32 : Int32) * (gi h 316 21)) + (gi h 322 ((gi h 316 21).toNatClampNeg))), .int j]) (h' := h) 11 rfl E hG
  rcases E_if2 (tg := 50) rfl rfl E with ⟨hc, m3, hm4, E⟩ | ⟨hc, m5, hm6, E⟩
  ·
    have c7 : (((32 : Int32) * (gi h 316 21)) + (gi h 322 ((gi h 316 21).toNatClampNeg))).toInt ≤ j.toInt := hc
    clear hc
    have ho8 := E_retv rfl E
    exact Or.inl ⟨c7, hG, ho8⟩
  ·
    have c9 : ¬ ((((32 : Int32) * (gi h 316 21)) + (gi h 322 ((gi h 316 21).toNatClampNeg))).toInt ≤ j.toInt) := hc
    clear hc
    obtain ⟨m10, hm11, E, hG⟩ := E_go (pc' := 41) (lv' := [(0, .ref 316), (1, .int y), (2, .int j)]) (st' := [.int j, .int (j + (1 : Int32)), .ref 316]) (h' := h) 5 rfl E hG
    exact Or.inr ⟨c9, _, (by omega), hG, E⟩
set_option maxRecDepth 100000 in
set_option maxHeartbeats 4000000 in
theorem ym_lg1 {n d : Nat} {h : rk_S} {o : Option Value × rk_S} {y j : Int32} (hG : yG h) (E : rk_ex n d rm_X8_letGo 44 [(0, .ref 316), (1, .int y), (2, .int j)] [] h = some o) :
    (∃ m, m < n ∧ yG h ∧ rk_ex m d rm_X8_letGo 15 [(0, .ref 316), (1, .int y), (2, .int (j + (1 : Int32)))] [] h = some o) := by
  obtain ⟨m1, hm2, E, hG⟩ := E_go (pc' := 15) (lv' := [(2, .int (j + (1 : Int32))), (0, .ref 316), (1, .int y)]) (st' := []) (h' := h) 2 rfl E hG
  replace E := E_lv [(0, .ref 316), (1, .int y), (2, .int (j + (1 : Int32)))] rfl (lvs_c rfl rfl (lvs_c rfl rfl (lvs_c rfl rfl lvs_n))) E
  exact ⟨_, (by omega), hG, E⟩
set_option maxRecDepth 100000 in
set_option maxHeartbeats 4000000 in
theorem ym_cp0 {n d : Nat} {h : rk_S} {o : Option Value × rk_S} {x y : Int32} (hG : yG h) (E : rk_ex n d rm_X8_copy 0 [(0, .ref 316), (1, .int x), (2, .int y)] [] h = some o) :
    (∃ m, m < n ∧ yG (rk_pt (rk_pt (rk_pt (rk_pt (rk_pt (rk_pt (rk_pt (rk_pt (rk_pt h 323 y.toNatClampNeg (.int (gi h 323 x.toNatClampNeg))) 324 y.toNatClampNeg (.int (gi h 324 x.toNatClampNeg))) 326 y.toNatClampNeg (.int (gi h 326 x.toNatClampNeg))) 328 y.toNatClampNeg (.int (gi h 328 x.toNatClampNeg))) 329 y.toNatClampNeg (.int (gi h 329 x.toNatClampNeg))) 330 y.toNatClampNeg (.int (gi h 330 x.toNatClampNeg))) 331 y.toNatClampNeg (.int (gi h 331 x.toNatClampNeg))) 332 y.toNatClampNeg (.int (gi h 332 x.toNatClampNeg))) 333 y.toNatClampNeg (.int (gi h 333 x.toNatClampNeg))) ∧ rk_ex m d rm_X8_copy 110 [(0, .ref 316), (1, .int x), (2, .int y), (3, .int (0 : Int32))] [] (rk_pt (rk_pt (rk_pt (rk_pt (rk_pt (rk_pt (rk_pt (rk_pt (rk_pt h 323 y.toNatClampNeg (.int (gi h 323 x.toNatClampNeg))) 324 y.toNatClampNeg (.int (gi h 324 x.toNatClampNeg))) 326 y.toNatClampNeg (.int (gi h 326 x.toNatClampNeg))) 328 y.toNatClampNeg (.int (gi h 328 x.toNatClampNeg))) 329 y.toNatClampNeg (.int (gi h 329 x.toNatClampNeg))) 330 y.toNatClampNeg (.int (gi h 330 x.toNatClampNeg))) 331 y.toNatClampNeg (.int (gi h 331 x.toNatClampNeg))) 332 y.toNatClampNeg (.int (gi h 332 x.toNatClampNeg))) 333 y.toNatClampNeg (.int (gi h 333 x.toNatClampNeg))) = some o) := by
  obtain ⟨m1, hm2, E, hG⟩ := E_go (pc' := 110) (lv' := [(3, .int (0 : Int32)), (0, .ref 316), (1, .int x), (2, .int y)]) (st' := []) (h' := rk_pt (rk_pt (rk_pt (rk_pt (rk_pt (rk_pt (rk_pt (rk_pt (rk_pt h 323 y.toNatClampNeg (.int (gi h 323 x.toNatClampNeg))) 324 y.toNatClampNeg (.int (gi (rk_pt h 323 y.toNatClampNeg (.int (gi h 323 x.toNatClampNeg))) 324 x.toNatClampNeg))) 326 y.toNatClampNeg (.int (gi (rk_pt (rk_pt h 323 y.toNatClampNeg (.int (gi h 323 x.toNatClampNeg))) 324 y.toNatClampNeg (.int (gi (rk_pt h 323 y.toNatClampNeg (.int (gi h 323 x.toNatClampNeg))) 324 x.toNatClampNeg))) 326 x.toNatClampNeg))) 328 y.toNatClampNeg (.int (gi (rk_pt (rk_pt (rk_pt h 323 y.toNatClampNeg (.int (gi h 323 x.toNatClampNeg))) 324 y.toNatClampNeg (.int (gi (rk_pt h 323 y.toNatClampNeg (.int (gi h 323 x.toNatClampNeg))) 324 x.toNatClampNeg))) 326 y.toNatClampNeg (.int (gi (rk_pt (rk_pt h 323 y.toNatClampNeg (.int (gi h 323 x.toNatClampNeg))) 324 y.toNatClampNeg (.int (gi (rk_pt h 323 y.toNatClampNeg (.int (gi h 323 x.toNatClampNeg))) 324 x.toNatClampNeg))) 326 x.toNatClampNeg))) 328 x.toNatClampNeg))) 329 y.toNatClampNeg (.int (gi (rk_pt (rk_pt (rk_pt (rk_pt h 323 y.toNatClampNeg (.int (gi h 323 x.toNatClampNeg))) 324 y.toNatClampNeg (.int (gi (rk_pt h 323 y.toNatClampNeg (.int (gi h 323 x.toNatClampNeg))) 324 x.toNatClampNeg))) 326 y.toNatClampNeg (.int (gi (rk_pt (rk_pt h 323 y.toNatClampNeg (.int (gi h 323 x.toNatClampNeg))) 324 y.toNatClampNeg (.int (gi (rk_pt h 323 y.toNatClampNeg (.int (gi h 323 x.toNatClampNeg))) 324 x.toNatClampNeg))) 326 x.toNatClampNeg))) 328 y.toNatClampNeg (.int (gi (rk_pt (rk_pt (rk_pt h 323 y.toNatClampNeg (.int (gi h 323 x.toNatClampNeg))) 324 y.toNatClampNeg (.int (gi (rk_pt h 323 y.toNatClampNeg (.int (gi h 323 x.toNatClampNeg))) 324 x.toNatClampNeg))) 326 y.toNatClampNeg (.int (gi (rk_pt (rk_pt h 323 y.toNatClampNeg (.int (gi h 323 x.toNatClampNeg))) 324 y.toNatClampNeg (.int (gi (rk_pt h 323 y.toNatClampNeg (.int (gi h 323 x.toNatClampNeg))) 324 x.toNatClampNeg))) 326 x.toNatClampNeg))) 328 x.toNatClampNeg))) 329 x.toNatClampNeg))) 330 y.toNatClampNeg (.int (gi (rk_pt (rk_pt (rk_pt (rk_pt (rk_pt h 323 y.toNatClampNeg (.int (gi h 323 x.toNatClampNeg))) 324 y.toNatClampNeg (.int (gi (rk_pt h 323 y.toNatClampNeg (.int (gi h 323 x.toNatClampNeg))) 324 x.toNatClampNeg))) 326 y.toNatClampNeg (.int (gi (rk_pt (rk_pt h 323 y.toNatClampNeg (.int (gi h 323 x.toNatClampNeg))) 324 y.toNatClampNeg (.int (gi (rk_pt h 323 y.toNatClampNeg (.int (gi h 323 x.toNatClampNeg))) 324 x.toNatClampNeg))) 326 x.toNatClampNeg))) 328 y.toNatClampNeg (.int (gi (rk_pt (rk_pt (rk_pt h 323 y.toNatClampNeg (.int (gi h 323 x.toNatClampNeg))) 324 y.toNatClampNeg (.int (gi (rk_pt h 323 y.toNatClampNeg (.int (gi h 323 x.toNatClampNeg))) 324 x.toNatClampNeg))) 326 y.toNatClampNeg (.int (gi (rk_pt (rk_pt h 323 y.toNatClampNeg (.int (gi h 323 x.toNatClampNeg))) 324 y.toNatClampNeg (.int (gi (rk_pt h 323 y.toNatClampNeg (.int (gi h 323 x.toNatClampNeg))) 324 x.toNatClampNeg))) 326 x.toNatClampNeg))) 328 x.toNatClampNeg))) 329 y.toNatClampNeg (.int (gi (rk_pt (rk_pt (rk_pt (rk_pt h 323 y.toNatClampNeg (.int (gi h 323 x.toNatClampNeg))) 324 y.toNatClampNeg (.int (gi (rk_pt h 323 y.toNatClampNeg (.int (gi h 323 x.toNatClampNeg))) 324 x.toNatClampNeg))) 326 y.toNatClampNeg (.int (gi (rk_pt (rk_pt h 323 y.toNatClampNeg (.int (gi h 323 x.toNatClampNeg))) 324 y.toNatClampNeg (.int (gi (rk_pt h 323 y.toNatClampNeg (.int (gi h 323 x.toNatClampNeg))) 324 x.toNatClampNeg))) 326 x.toNatClampNeg))) 328 y.toNatClampNeg (.int (gi (rk_pt (rk_pt (rk_pt h 323 y.toNatClampNeg (.int (gi h 323 x.toNatClampNeg))) 324 y.toNatClampNeg (.int (gi (rk_pt h 323 y.toNatClampNeg (.int (gi h 323 x.toNatClampNeg))) 324 x.toNatClampNeg))) 326 y.toNatClampNeg (.int (gi (rk_pt (rk_pt h 323 y.toNatClampNeg (.int (gi h 323 x.toNatClampNeg))) 324 y.toNatClampNeg (.int (gi (rk_pt h 323 y.toNatClampNeg (.int (gi h 323 x.toNatClampNeg))) 324 x.toNatClampNeg))) 326 x.toNatClampNeg))) 328 x.toNatClampNeg))) 329 x.toNatClampNeg))) 330 x.toNatClampNeg))) 331 y.toNatClampNeg (.int (gi (rk_pt (rk_pt (rk_pt (rk_pt (rk_pt (rk_pt h 323 y.toNatClampNeg (.int (gi h 323 x.toNatClampNeg))) 324 y.toNatClampNeg (.int (gi (rk_pt h 323 y.toNatClampNeg (.int (gi h 323 x.toNatClampNeg))) 324 x.toNatClampNeg))) 326 y.toNatClampNeg (.int (gi (rk_pt (rk_pt h 323 y.toNatClampNeg (.int (gi h 323 x.toNatClampNeg))) 324 y.toNatClampNeg (.int (gi (rk_pt h 323 y.toNatClampNeg (.int (gi h 323 x.toNatClampNeg))) 324 x.toNatClampNeg))) 326 x.toNatClampNeg))) 328 y.toNatClampNeg (.int (gi (rk_pt (rk_pt (rk_pt h 323 y.toNatClampNeg (.int (gi h 323 x.toNatClampNeg))) 324 y.toNatClampNeg (.int (gi (rk_pt h 323 y.toNatClampNeg (.int (gi h 323 x.toNatClampNeg))) 324 x.toNatClampNeg))) 326 y.toNatClampNeg (.int (gi (rk_pt (rk_pt h 323 y.toNatClampNeg (.int (gi h 323 x.toNatClampNeg))) 324 y.toNatClampNeg (.int (gi (rk_pt h 323 y.toNatClampNeg (.int (gi h 323 x.toNatClampNeg))) 324 x.toNatClampNeg))) 326 x.toNatClampNeg))) 328 x.toNatClampNeg))) 329 y.toNatClampNeg (.int (gi (rk_pt (rk_pt (rk_pt (rk_pt h 323 y.toNatClampNeg (.int (gi h 323 x.toNatClampNeg))) 324 y.toNatClampNeg (.int (gi (rk_pt h 323 y.toNatClampNeg (.int (gi h 323 x.toNatClampNeg))) 324 x.toNatClampNeg))) 326 y.toNatClampNeg (.int (gi (rk_pt (rk_pt h 323 y.toNatClampNeg (.int (gi h 323 x.toNatClampNeg))) 324 y.toNatClampNeg (.int (gi (rk_pt h 323 y.toNatClampNeg (.int (gi h 323 x.toNatClampNeg))) 324 x.toNatClampNeg))) 326 x.toNatClampNeg))) 328 y.toNatClampNeg (.int (gi (rk_pt (rk_pt (rk_pt h 323 y.toNatClampNeg (.int (gi h 323 x.toNatClampNeg))) 324 y.toNatClampNeg (.int (gi (rk_pt h 323 y.toNatClampNeg (.int (gi h 323 x.toNatClampNeg))) 324 x.toNatClampNeg))) 326 y.toNatClampNeg (.int (gi (rk_pt (rk_pt h 323 y.toNatClampNeg (.int (gi h 323 x.toNatClampNeg))) 324 y.toNatClampNeg (.int (gi (rk_pt h 323 y.toNatClampNeg (.int (gi h 323 x.toNatClampNeg))) 324 x.toNatClampNeg))) 326 x.toNatClampNeg))) 328 x.toNatClampNeg))) 329 x.toNatClampNeg))) 330 y.toNatClampNeg (.int (gi (rk_pt (rk_pt (rk_pt (rk_pt (rk_pt h 323 y.toNatClampNeg (.int (gi h 323 x.toNatClampNeg))) 324 y.toNatClampNeg (.int (gi (rk_pt h 323 y.toNatClampNeg (.int (gi h 323 x.toNatClampNeg))) 324 x.toNatClampNeg))) 326 y.toNatClampNeg (.int (gi (rk_pt (rk_pt h 323 y.toNatClampNeg (.int (gi h 323 x.toNatClampNeg))) 324 y.toNatClampNeg (.int (gi (rk_pt h 323 y.toNatClampNeg (.int (gi h 323 x.toNatClampNeg))) 324 x.toNatClampNeg))) 326 x.toNatClampNeg))) 328 y.toNatClampNeg (.int (gi (rk_pt (rk_pt (rk_pt h 323 y.toNatClampNeg (.int (gi h 323 x.toNatClampNeg))) 324 y.toNatClampNeg (.int (gi (rk_pt h 323 y.toNatClampNeg (.int (gi h 323 x.toNatClampNeg))) 324 x.toNatClampNeg))) 326 y.toNatClampNeg (.int (gi (rk_pt (rk_pt h 323 y.toNatClampNeg (.int (gi h 323 x.toNatClampNeg))) 324 y.toNatClampNeg (.int (gi (rk_pt h 323 y.toNatClampNeg (.int (gi h 323 x.toNatClampNeg))) 324 x.toNatClampNeg))) 326 x.toNatClampNeg))) 328 x.toNatClampNeg))) 329 y.toNatClampNeg (.int (gi (rk_pt (rk_pt (rk_pt (rk_pt h 323 y.toNatClampNeg (.int (gi h 323 x.toNatClampNeg))) 324 y.toNatClampNeg (.int (gi (rk_pt h 323 y.toNatClampNeg (.int (gi h 323 x.toNatClampNeg))) 324 x.toNatClampNeg))) 326 y.toNatClampNeg (.int (gi (rk_pt (rk_pt h 323 y.toNatClampNeg (.int (gi h 323 x.toNatClampNeg))) 324 y.toNatClampNeg (.int (gi (rk_pt h 323 y.toNatClampNeg (.int (gi h 323 x.toNatClampNeg))) 324 x.toNatClampNeg))) 326 x.toNatClampNeg))) 328 y.toNatClampNeg (.int (gi (rk_pt (rk_pt (rk_pt h 323 y.toNatClampNeg (.int (gi h 323 x.toNatClampNeg))) 324 y.toNatClampNeg (.int (gi (rk_pt h 323 y.toNatClampNeg (.int (gi h 323 x.toNatClampNeg))) 324 x.toNatClampNeg))) 326 y.toNatClampNeg (.int (gi (rk_pt (rk_pt h 323 y.toNatClampNeg (.int (gi h 323 x.toNatClampNeg))) 324 y.toNatClampNeg (.int (gi (rk_pt h 323 y.toNatClampNeg (.int (gi h 323 x.toNatClampNeg))) 324 x.toNatClampNeg))) 326 x.toNatClampNeg))) 328 x.toNatClampNeg))) 329 x.toNatClampNeg))) 330 x.toNatClampNeg))) 331 x.toNatClampNeg))) 332 y.toNatClampNeg (.int (gi (rk_pt (rk_pt (rk_pt (rk_pt (rk_pt (rk_pt (rk_pt h 323 y.toNatClampNeg (.int (gi h 323 x.toNatClampNeg))) 324 y.toNatClampNeg (.int (gi (rk_pt h 323 y.toNatClampNeg (.int (gi h 323 x.toNatClampNeg))) 324 x.toNatClampNeg))) 326 y.toNatClampNeg (.int (gi (rk_pt (rk_pt h 323 y.toNatClampNeg (.int (gi h 323 x.toNatClampNeg))) 324 y.toNatClampNeg (.int (gi (rk_pt h 323 y.toNatClampNeg (.int (gi h 323 x.toNatClampNeg))) 324 x.toNatClampNeg))) 326 x.toNatClampNeg))) 328 y.toNatClampNeg (.int (gi (rk_pt (rk_pt (rk_pt h 323 y.toNatClampNeg (.int (gi h 323 x.toNatClampNeg))) 324 y.toNatClampNeg (.int (gi (rk_pt h 323 y.toNatClampNeg (.int (gi h 323 x.toNatClampNeg))) 324 x.toNatClampNeg))) 326 y.toNatClampNeg (.int (gi (rk_pt (rk_pt h 323 y.toNatClampNeg (.int (gi h 323 x.toNatClampNeg))) 324 y.toNatClampNeg (.int (gi (rk_pt h 323 y.toNatClampNeg (.int (gi h 323 x.toNatClampNeg))) 324 x.toNatClampNeg))) 326 x.toNatClampNeg))) 328 x.toNatClampNeg))) 329 y.toNatClampNeg (.int (gi (rk_pt (rk_pt (rk_pt (rk_pt h 323 y.toNatClampNeg (.int (gi h 323 x.toNatClampNeg))) 324 y.toNatClampNeg (.int (gi (rk_pt h 323 y.toNatClampNeg (.int (gi h 323 x.toNatClampNeg))) 324 x.toNatClampNeg))) 326 y.toNatClampNeg (.int (gi (rk_pt (rk_pt h 323 y.toNatClampNeg (.int (gi h 323 x.toNatClampNeg))) 324 y.toNatClampNeg (.int (gi (rk_pt h 323 y.toNatClampNeg (.int (gi h 323 x.toNatClampNeg))) 324 x.toNatClampNeg))) 326 x.toNatClampNeg))) 328 y.toNatClampNeg (.int (gi (rk_pt (rk_pt (rk_pt h 323 y.toNatClampNeg (.int (gi h 323 x.toNatClampNeg))) 324 y.toNatClampNeg (.int (gi (rk_pt h 323 y.toNatClampNeg (.int (gi h 323 x.toNatClampNeg))) 324 x.toNatClampNeg))) 326 y.toNatClampNeg (.int (gi (rk_pt (rk_pt h 323 y.toNatClampNeg (.int (gi h 323 x.toNatClampNeg))) 324 y.toNatClampNeg (.int (gi (rk_pt h 323 y.toNatClampNeg (.int (gi h 323 x.toNatClampNeg))) 324 x.toNatClampNeg))) 326 x.toNatClampNeg))) 328 x.toNatClampNeg))) 329 x.toNatClampNeg))) 330 y.toNatClampNeg (.int (gi (rk_pt (rk_pt (rk_pt (rk_pt (rk_pt h 323 y.toNatClampNeg (.int (gi h 323 x.toNatClampNeg))) 324 y.toNatClampNeg (.int (gi (rk_pt h 323 y.toNatClampNeg (.int (gi h 323 x.toNatClampNeg))) 324 x.toNatClampNeg))) 326 y.toNatClampNeg (.int (gi (rk_pt (rk_pt h 323 y.toNatClampNeg (.int (gi h 323 x.toNatClampNeg))) 324 y.toNatClampNeg (.int (gi (rk_pt h 323 y.toNatClampNeg (.int (gi h 323 x.toNatClampNeg))) 324 x.toNatClampNeg))) 326 x.toNatClampNeg))) 328 y.toNatClampNeg (.int (gi (rk_pt (rk_pt (rk_pt h 323 y.toNatClampNeg (.int (gi h 323 x.toNatClampNeg))) 324 y.toNatClampNeg (.int (gi (rk_pt h 323 y.toNatClampNeg (.int (gi h 323 x.toNatClampNeg))) 324 x.toNatClampNeg))) 326 y.toNatClampNeg (.int (gi (rk_pt (rk_pt h 323 y.toNatClampNeg (.int (gi h 323 x.toNatClampNeg))) 324 y.toNatClampNeg (.int (gi (rk_pt h 323 y.toNatClampNeg (.int (gi h 323 x.toNatClampNeg))) 324 x.toNatClampNeg))) 326 x.toNatClampNeg))) 328 x.toNatClampNeg))) 329 y.toNatClampNeg (.int (gi (rk_pt (rk_pt (rk_pt (rk_pt h 323 y.toNatClampNeg (.int (gi h 323 x.toNatClampNeg))) 324 y.toNatClampNeg (.int (gi (rk_pt h 323 y.toNatClampNeg (.int (gi h 323 x.toNatClampNeg))) 324 x.toNatClampNeg))) 326 y.toNatClampNeg (.int (gi (rk_pt (rk_pt h 323 y.toNatClampNeg (.int (gi h 323 x.toNatClampNeg))) 324 y.toNatClampNeg (.int (gi (rk_pt h 323 y.toNatClampNeg (.int (gi h 323 x.toNatClampNeg))) 324 x.toNatClampNeg))) 326 x.toNatClampNeg))) 328 y.toNatClampNeg (.int (gi (rk_pt (rk_pt (rk_pt h 323 y.toNatClampNeg (.int (gi h 323 x.toNatClampNeg))) 324 y.toNatClampNeg (.int (gi (rk_pt h 323 y.toNatClampNeg (.int (gi h 323 x.toNatClampNeg))) 324 x.toNatClampNeg))) 326 y.toNatClampNeg (.int (gi (rk_pt (rk_pt h 323 y.toNatClampNeg (.int (gi h 323 x.toNatClampNeg))) 324 y.toNatClampNeg (.int (gi (rk_pt h 323 y.toNatClampNeg (.int (gi h 323 x.toNatClampNeg))) 324 x.toNatClampNeg))) 326 x.toNatClampNeg))) 328 x.toNatClampNeg))) 329 x.toNatClampNeg))) 330 x.toNatClampNeg))) 331 y.toNatClampNeg (.int (gi (rk_pt (rk_pt (rk_pt (rk_pt (rk_pt (rk_pt h 323 y.toNatClampNeg (.int (gi h 323 x.toNatClampNeg))) 324 y.toNatClampNeg (.int (gi (rk_pt h 323 y.toNatClampNeg (.int (gi h 323 x.toNatClampNeg))) 324 x.toNatClampNeg))) 326 y.toNatClampNeg (.int (gi (rk_pt (rk_pt h 323 y.toNatClampNeg (.int (gi h 323 x.toNatClampNeg))) 324 y.toNatClampNeg (.int (gi (rk_pt h 323 y.toNatClampNeg (.int (gi h 323 x.toNatClampNeg))) 324 x.toNatClampNeg))) 326 x.toNatClampNeg))) 328 y.toNatClampNeg (.int (gi (rk_pt (rk_pt (rk_pt h 323 y.toNatClampNeg (.int (gi h 323 x.toNatClampNeg))) 324 y.toNatClampNeg (.int (gi (rk_pt h 323 y.toNatClampNeg (.int (gi h 323 x.toNatClampNeg))) 324 x.toNatClampNeg))) 326 y.toNatClampNeg (.int (gi (rk_pt (rk_pt h 323 y.toNatClampNeg (.int (gi h 323 x.toNatClampNeg))) 324 y.toNatClampNeg (.int (gi (rk_pt h 323 y.toNatClampNeg (.int (gi h 323 x.toNatClampNeg))) 324 x.toNatClampNeg))) 326 x.toNatClampNeg))) 328 x.toNatClampNeg))) 329 y.toNatClampNeg (.int (gi (rk_pt (rk_pt (rk_pt (rk_pt h 323 y.toNatClampNeg (.int (gi h 323 x.toNatClampNeg))) 324 y.toNatClampNeg (.int (gi (rk_pt h 323 y.toNatClampNeg (.int (gi h 323 x.toNatClampNeg))) 324 x.toNatClampNeg))) 326 y.toNatClampNeg (.int (gi (rk_pt (rk_pt h 323 y.toNatClampNeg (.int (gi h 323 x.toNatClampNeg))) 324 y.toNatClampNeg (.int (gi (rk_pt h 323 y.toNatClampNeg (.int (gi h 323 x.toNatClampNeg))) 324 x.toNatClampNeg))) 326 x.toNatClampNeg))) 328 y.toNatClampNeg (.int (gi (rk_pt (rk_pt (rk_pt h 323 y.toNatClampNeg (.int (gi h 323 x.toNatClampNeg))) 324 y.toNatClampNeg (.int (gi (rk_pt h 323 y.toNatClampNeg (.int (gi h 323 x.toNatClampNeg))) 324 x.toNatClampNeg))) 326 y.toNatClampNeg (.int (gi (rk_pt (rk_pt h 323 y.toNatClampNeg (.int (gi h 323 x.toNatClampNeg))) 324 y.toNatClampNeg (.int (gi (rk_pt h 323 y.toNatClampNeg (.int (gi h 323 x.toNatClampNeg))) 324 x.toNatClampNeg))) 326 x.toNatClampNeg))) 328 x.toNatClampNeg))) 329 x.toNatClampNeg))) 330 y.toNatClampNeg (.int (gi (rk_pt (rk_pt (rk_pt (rk_pt (rk_pt h 323 y.toNatClampNeg (.int (gi h 323 x.toNatClampNeg))) 324 y.toNatClampNeg (.int (gi (rk_pt h 323 y.toNatClampNeg (.int (gi h 323 x.toNatClampNeg))) 324 x.toNatClampNeg))) 326 y.toNatClampNeg (.int (gi (rk_pt (rk_pt h 323 y.toNatClampNeg (.int (gi h 323 x.toNatClampNeg))) 324 y.toNatClampNeg (.int (gi (rk_pt h 323 y.toNatClampNeg (.int (gi h 323 x.toNatClampNeg))) 324 x.toNatClampNeg))) 326 x.toNatClampNeg))) 328 y.toNatClampNeg (.int (gi (rk_pt (rk_pt (rk_pt h 323 y.toNatClampNeg (.int (gi h 323 x.toNatClampNeg))) 324 y.toNatClampNeg (.int (gi (rk_pt h 323 y.toNatClampNeg (.int (gi h 323 x.toNatClampNeg))) 324 x.toNatClampNeg))) 326 y.toNatClampNeg (.int (gi (rk_pt (rk_pt h 323 y.toNatClampNeg (.int (gi h 323 x.toNatClampNeg))) 324 y.toNatClampNeg (.int (gi (rk_pt h 323 y.toNatClampNeg (.int (gi h 323 x.toNatClampNeg))) 324 x.toNatClampNeg))) 326 x.toNatClampNeg))) 328 x.toNatClampNeg))) 329 y.toNatClampNeg (.int (gi (rk_pt (rk_pt (rk_pt (rk_pt h 323 y.toNatClampNeg (.int (gi h 323 x.toNatClampNeg))) 324 y.toNatClampNeg (.int (gi (rk_pt h 323 y.toNatClampNeg (.int (gi h 323 x.toNatClampNeg))) 324 x.toNatClampNeg))) 326 y.toNatClampNeg (.int (gi (rk_pt (rk_pt h 323 y.toNatClampNeg (.int (gi h 323 x.toNatClampNeg))) 324 y.toNatClampNeg (.int (gi (rk_pt h 323 y.toNatClampNeg (.int (gi h 323 x.toNatClampNeg))) 324 x.toNatClampNeg))) 326 x.toNatClampNeg))) 328 y.toNatClampNeg (.int (gi (rk_pt (rk_pt (rk_pt h 323 y.toNatClampNeg (.int (gi h 323 x.toNatClampNeg))) 324 y.toNatClampNeg (.int (gi (rk_pt h 323 y.toNatClampNeg (.int (gi h 323 x.toNatClampNeg))) 324 x.toNatClampNeg))) 326 y.toNatClampNeg (.int (gi (rk_pt (rk_pt h 323 y.toNatClampNeg (.int (gi h 323 x.toNatClampNeg))) 324 y.toNatClampNeg (.int (gi (rk_pt h 323 y.toNatClampNeg (.int (gi h 323 x.toNatClampNeg))) 324 x.toNatClampNeg))) 326 x.toNatClampNeg))) 328 x.toNatClampNeg))) 329 x.toNatClampNeg))) 330 x.toNatClampNeg))) 331 x.toNatClampNeg))) 332 x.toNatClampNeg))) 333 y.toNatClampNeg (.int (gi (rk_pt (rk_pt (rk_pt (rk_pt (rk_pt (rk_pt (rk_pt (rk_pt h 323 y.toNatClampNeg (.int (gi h 323 x.toNatClampNeg))) 324 y.toNatClampNeg (.int (gi (rk_pt h 323 y.toNatClampNeg (.int (gi h 323 x.toNatClampNeg))) 324 x.toNatClampNeg))) 326 y.toNatClampNeg (.int (gi (rk_pt (rk_pt h 323 y.toNatClampNeg (.int (gi h 323 x.toNatClampNeg))) 324 y.toNatClampNeg (.int (gi (rk_pt h 323 y.toNatClampNeg (.int (gi h 323 x.toNatClampNeg))) 324 x.toNatClampNeg))) 326 x.toNatClampNeg))) 328 y.toNatClampNeg (.int (gi (rk_pt (rk_pt (rk_pt h 323 y.toNatClampNeg (.int (gi h 323 x.toNatClampNeg))) 324 y.toNatClampNeg (.int (gi (rk_pt h 323 y.toNatClampNeg (.int (gi h 323 x.toNatClampNeg))) 324 x.toNatClampNeg))) 326 y.toNatClampNeg (.int (gi (rk_pt (rk_pt h 323 y.toNatClampNeg (.int (gi h 323 x.toNatClampNeg))) 324 y.toNatClampNeg (.int (gi (rk_pt h 323 y.toNatClampNeg (.int (gi h 323 x.toNatClampNeg))) 324 x.toNatClampNeg))) 326 x.toNatClampNeg))) 328 x.toNatClampNeg))) 329 y.toNatClampNeg (.int (gi (rk_pt (rk_pt (rk_pt (rk_pt h 323 y.toNatClampNeg (.int (gi h 323 x.toNatClampNeg))) 324 y.toNatClampNeg (.int (gi (rk_pt h 323 y.toNatClampNeg (.int (gi h 323 x.toNatClampNeg))) 324 x.toNatClampNeg))) 326 y.toNatClampNeg (.int (gi (rk_pt (rk_pt h 323 y.toNatClampNeg (.int (gi h 323 x.toNatClampNeg))) 324 y.toNatClampNeg (.int (gi (rk_pt h 323 y.toNatClampNeg (.int (gi h 323 x.toNatClampNeg))) 324 x.toNatClampNeg))) 326 x.toNatClampNeg))) 328 y.toNatClampNeg (.int (gi (rk_pt (rk_pt (rk_pt h 323 y.toNatClampNeg (.int (gi h 323 x.toNatClampNeg))) 324 y.toNatClampNeg (.int (gi (rk_pt h 323 y.toNatClampNeg (.int (gi h 323 x.toNatClampNeg))) 324 x.toNatClampNeg))) 326 y.toNatClampNeg (.int (gi (rk_pt (rk_pt h 323 y.toNatClampNeg (.int (gi h 323 x.toNatClampNeg))) 324 y.toNatClampNeg (.int (gi (rk_pt h 323 y.toNatClampNeg (.int (gi h 323 x.toNatClampNeg))) 324 x.toNatClampNeg))) 326 x.toNatClampNeg))) 328 x.toNatClampNeg))) 329 x.toNatClampNeg))) 330 y.toNatClampNeg (.int (gi (rk_pt (rk_pt (rk_pt (rk_pt (rk_pt h 323 y.toNatClampNeg (.int (gi h 323 x.toNatClampNeg))) 324 y.toNatClampNeg (.int (gi (rk_pt h 323 y.toNatClampNeg (.int (gi h 323 x.toNatClampNeg))) 324 x.toNatClampNeg))) 326 y.toNatClampNeg (.int (gi (rk_pt (rk_pt h 323 y.toNatClampNeg (.int (gi h 323 x.toNatClampNeg))) 324 y.toNatClampNeg (.int (gi (rk_pt h 323 y.toNatClampNeg (.int (gi h 323 x.toNatClampNeg))) 324 x.toNatClampNeg))) 326 x.toNatClampNeg))) 328 y.toNatClampNeg (.int (gi (rk_pt (rk_pt (rk_pt h 323 y.toNatClampNeg (.int (gi h 323 x.toNatClampNeg))) 324 y.toNatClampNeg (.int (gi (rk_pt h 323 y.toNatClampNeg (.int (gi h 323 x.toNatClampNeg))) 324 x.toNatClampNeg))) 326 y.toNatClampNeg (.int (gi (rk_pt (rk_pt h 323 y.toNatClampNeg (.int (gi h 323 x.toNatClampNeg))) 324 y.toNatClampNeg (.int (gi (rk_pt h 323 y.toNatClampNeg (.int (gi h 323 x.toNatClampNeg))) 324 x.toNatClampNeg))) 326 x.toNatClampNeg))) 328 x.toNatClampNeg))) 329 y.toNatClampNeg (.int (gi (rk_pt (rk_pt (rk_pt (rk_pt h 323 y.toNatClampNeg (.int (gi h 323 x.toNatClampNeg))) 324 y.toNatClampNeg (.int (gi (rk_pt h 323 y.toNatClampNeg (.int (gi h 323 x.toNatClampNeg))) 324 x.toNatClampNeg))) 326 y.toNatClampNeg (.int (gi (rk_pt (rk_pt h 323 y.toNatClampNeg (.int (gi h 323 x.toNatClampNeg))) 324 y.toNatClampNeg (.int (gi (rk_pt h 323 y.toNatClampNeg (.int (gi h 323 x.toNatClampNeg))) 324 x.toNatClampNeg))) 326 x.toNatClampNeg))) 328 y.toNatClampNeg (.int (gi (rk_pt (rk_pt (rk_pt h 323 y.toNatClampNeg (.int (gi h 323 x.toNatClampNeg))) 324 y.toNatClampNeg (.int (gi (rk_pt h 323 y.toNatClampNeg (.int (gi h 323 x.toNatClampNeg))) 324 x.toNatClampNeg))) 326 y.toNatClampNeg (.int (gi (rk_pt (rk_pt h 323 y.toNatClampNeg (.int (gi h 323 x.toNatClampNeg))) 324 y.toNatClampNeg (.int (gi (rk_pt h 323 y.toNatClampNeg (.int (gi h 323 x.toNatClampNeg))) 324 x.toNatClampNeg))) 326 x.toNatClampNeg))) 328 x.toNatClampNeg))) 329 x.toNatClampNeg))) 330 x.toNatClampNeg))) 331 y.toNatClampNeg (.int (gi (rk_pt (rk_pt (rk_pt (rk_pt (rk_pt (rk_pt h 323 y.toNatClampNeg (.int (gi h 323 x.toNatClampNeg))) 324 y.toNatClampNeg (.int (gi (rk_pt h 323 y.toNatClampNeg (.int (gi h 323 x.toNatClampNeg))) 324 x.toNatClampNeg))) 326 y.toNatClampNeg (.int (gi (rk_pt (rk_pt h 323 y.toNatClampNeg (.int (gi h 323 x.toNatClampNeg))) 324 y.toNatClampNeg (.int (gi (rk_pt h 323 y.toNatClampNeg (.int (gi h 323 x.toNatClampNeg))) 324 x.toNatClampNeg))) 326 x.toNatClampNeg))) 328 y.toNatClampNeg (.int (gi (rk_pt (rk_pt (rk_pt h 323 y.toNatClampNeg (.int (gi h 323 x.toNatClampNeg))) 324 y.toNatClampNeg (.int (gi (rk_pt h 323 y.toNatClampNeg (.int (gi h 323 x.toNatClampNeg))) 324 x.toNatClampNeg))) 326 y.toNatClampNeg (.int (gi (rk_pt (rk_pt h 323 y.toNatClampNeg (.int (gi h 323 x.toNatClampNeg))) 324 y.toNatClampNeg (.int (gi (rk_pt h 323 y.toNatClampNeg (.int (gi h 323 x.toNatClampNeg))) 324 x.toNatClampNeg))) 326 x.toNatClampNeg))) 328 x.toNatClampNeg))) 329 y.toNatClampNeg (.int (gi (rk_pt (rk_pt (rk_pt (rk_pt h 323 y.toNatClampNeg (.int (gi h 323 x.toNatClampNeg))) 324 y.toNatClampNeg (.int (gi (rk_pt h 323 y.toNatClampNeg (.int (gi h 323 x.toNatClampNeg))) 324 x.toNatClampNeg))) 326 y.toNatClampNeg (.int (gi (rk_pt (rk_pt h 323 y.toNatClampNeg (.int (gi h 323 x.toNatClampNeg))) 324 y.toNatClampNeg (.int (gi (rk_pt h 323 y.toNatClampNeg (.int (gi h 323 x.toNatClampNeg))) 324 x.toNatClampNeg))) 326 x.toNatClampNeg))) 328 y.toNatClampNeg (.int (gi (rk_pt (rk_pt (rk_pt h 323 y.toNatClampNeg (.int (gi h 323 x.toNatClampNeg))) 324 y.toNatClampNeg (.int (gi (rk_pt h 323 y.toNatClampNeg (.int (gi h 323 x.toNatClampNeg))) 324 x.toNatClampNeg))) 326 y.toNatClampNeg (.int (gi (rk_pt (rk_pt h 323 y.toNatClampNeg (.int (gi h 323 x.toNatClampNeg))) 324 y.toNatClampNeg (.int (gi (rk_pt h 323 y.toNatClampNeg (.int (gi h 323 x.toNatClampNeg))) 324 x.toNatClampNeg))) 326 x.toNatClampNeg))) 328 x.toNatClampNeg))) 329 x.toNatClampNeg))) 330 y.toNatClampNeg (.int (gi (rk_pt (rk_pt (rk_pt (rk_pt (rk_pt h 323 y.toNatClampNeg (.int (gi h 323 x.toNatClampNeg))) 324 y.toNatClampNeg (.int (gi (rk_pt h 323 y.toNatClampNeg (.int (gi h 323 x.toNatClampNeg))) 324 x.toNatClampNeg))) 326 y.toNatClampNeg (.int (gi (rk_pt (rk_pt h 323 y.toNatClampNeg (.int (gi h 323 x.toNatClampNeg))) 324 y.toNatClampNeg (.int (gi (rk_pt h 323 y.toNatClampNeg (.int (gi h 323 x.toNatClampNeg))) 324 x.toNatClampNeg))) 326 x.toNatClampNeg))) 328 y.toNatClampNeg (.int (gi (rk_pt (rk_pt (rk_pt h 323 y.toNatClampNeg (.int (gi h 323 x.toNatClampNeg))) 324 y.toNatClampNeg (.int (gi (rk_pt h 323 y.toNatClampNeg (.int (gi h 323 x.toNatClampNeg))) 324 x.toNatClampNeg))) 326 y.toNatClampNeg (.int (gi (rk_pt (rk_pt h 323 y.toNatClampNeg (.int (gi h 323 x.toNatClampNeg))) 324 y.toNatClampNeg (.int (gi (rk_pt h 323 y.toNatClampNeg (.int (gi h 323 x.toNatClampNeg))) 324 x.toNatClampNeg))) 326 x.toNatClampNeg))) 328 x.toNatClampNeg))) 329 y.toNatClampNeg (.int (gi (rk_pt (rk_pt (rk_pt (rk_pt h 323 y.toNatClampNeg (.int (gi h 323 x.toNatClampNeg))) 324 y.toNatClampNeg (.int (gi (rk_pt h 323 y.toNatClampNeg (.int (gi h 323 x.toNatClampNeg))) 324 x.toNatClampNeg))) 326 y.toNatClampNeg (.int (gi (rk_pt (rk_pt h 323 y.toNatClampNeg (.int (gi h 323 x.toNatClampNeg))) 324 y.toNatClampNeg (.int (gi (rk_pt h 323 y.toNatClampNeg (.int (gi h 323 x.toNatClampNeg))) 324 x.toNatClampNeg))) 326 x.toNatClampNeg))) 328 y.toNatClampNeg (.int (gi (rk_pt (rk_pt (rk_pt h 323 y.toNatClampNeg (.int (gi h 323 x.toNatClampNeg))) 324 y.toNatClampNeg (.int (gi (rk_pt h 323 y.toNatClampNeg (.int (gi h 323 x.toNatClampNeg))) 324 x.toNatClampNeg))) 326 y.toNatClampNeg (.int (gi (rk_pt (rk_pt h 323 y.toNatClampNeg (.int (gi h 323 x.toNatClampNeg))) 324 y.toNatClampNeg (.int (gi (rk_pt h 323 y.toNatClampNeg (.int (gi h 323 x.toNatClampNeg))) 324 x.toNatClampNeg))) 326 x.toNatClampNeg))) 328 x.toNatClampNeg))) 329 x.toNatClampNeg))) 330 x.toNatClampNeg))) 331 x.toNatClampNeg))) 332 y.toNatClampNeg (.int (gi (rk_pt (rk_pt (rk_pt (rk_pt (rk_pt (rk_pt (rk_pt h 323 y.toNatClampNeg (.int (gi h 323 x.toNatClampNeg))) 324 y.toNatClampNeg (.int (gi (rk_pt h 323 y.toNatClampNeg (.int (gi h 323 x.toNatClampNeg))) 324 x.toNatClampNeg))) 326 y.toNatClampNeg (.int (gi (rk_pt (rk_pt h 323 y.toNatClampNeg (.int (gi h 323 x.toNatClampNeg))) 324 y.toNatClampNeg (.int (gi (rk_pt h 323 y.toNatClampNeg (.int (gi h 323 x.toNatClampNeg))) 324 x.toNatClampNeg))) 326 x.toNatClampNeg))) 328 y.toNatClampNeg (.int (gi (rk_pt (rk_pt (rk_pt h 323 y.toNatClampNeg (.int (gi h 323 x.toNatClampNeg))) 324 y.toNatClampNeg (.int (gi (rk_pt h 323 y.toNatClampNeg (.int (gi h 323 x.toNatClampNeg))) 324 x.toNatClampNeg))) 326 y.toNatClampNeg (.int (gi (rk_pt (rk_pt h 323 y.toNatClampNeg (.int (gi h 323 x.toNatClampNeg))) 324 y.toNatClampNeg (.int (gi (rk_pt h 323 y.toNatClampNeg (.int (gi h 323 x.toNatClampNeg))) 324 x.toNatClampNeg))) 326 x.toNatClampNeg))) 328 x.toNatClampNeg))) 329 y.toNatClampNeg (.int (gi (rk_pt (rk_pt (rk_pt (rk_pt h 323 y.toNatClampNeg (.int (gi h 323 x.toNatClampNeg))) 324 y.toNatClampNeg (.int (gi (rk_pt h 323 y.toNatClampNeg (.int (gi h 323 x.toNatClampNeg))) 324 x.toNatClampNeg))) 326 y.toNatClampNeg (.int (gi (rk_pt (rk_pt h 323 y.toNatClampNeg (.int (gi h 323 x.toNatClampNeg))) 324 y.toNatClampNeg (.int (gi (rk_pt h 323 y.toNatClampNeg (.int (gi h 323 x.toNatClampNeg))) 324 x.toNatClampNeg))) 326 x.toNatClampNeg))) 328 y.toNatClampNeg (.int (gi (rk_pt (rk_pt (rk_pt h 323 y.toNatClampNeg (.int (gi h 323 x.toNatClampNeg))) 324 y.toNatClampNeg (.int (gi (rk_pt h 323 y.toNatClampNeg (.int (gi h 323 x.toNatClampNeg))) 324 x.toNatClampNeg))) 326 y.toNatClampNeg (.int (gi (rk_pt (rk_pt h 323 y.toNatClampNeg (.int (gi h 323 x.toNatClampNeg))) 324 y.toNatClampNeg (.int (gi (rk_pt h 323 y.toNatClampNeg (.int (gi h 323 x.toNatClampNeg))) 324 x.toNatClampNeg))) 326 x.toNatClampNeg))) 328 x.toNatClampNeg))) 329 x.toNatClampNeg))) 330 y.toNatClampNeg (.int (gi (rk_pt (rk_pt (rk_pt (rk_pt (rk_pt h 323 y.toNatClampNeg (.int (gi h 323 x.toNatClampNeg))) 324 y.toNatClampNeg (.int (gi (rk_pt h 323 y.toNatClampNeg (.int (gi h 323 x.toNatClampNeg))) 324 x.toNatClampNeg))) 326 y.toNatClampNeg (.int (gi (rk_pt (rk_pt h 323 y.toNatClampNeg (.int (gi h 323 x.toNatClampNeg))) 324 y.toNatClampNeg (.int (gi (rk_pt h 323 y.toNatClampNeg (.int (gi h 323 x.toNatClampNeg))) 324 x.toNatClampNeg))) 326 x.toNatClampNeg))) 328 y.toNatClampNeg (.int (gi (rk_pt (rk_pt (rk_pt h 323 y.toNatClampNeg (.int (gi h 323 x.toNatClampNeg))) 324 y.toNatClampNeg (.int (gi (rk_pt h 323 y.toNatClampNeg (.int (gi h 323 x.toNatClampNeg))) 324 x.toNatClampNeg))) 326 y.toNatClampNeg (.int (gi (rk_pt (rk_pt h 323 y.toNatClampNeg (.int (gi h 323 x.toNatClampNeg))) 324 y.toNatClampNeg (.int (gi (rk_pt h 323 y.toNatClampNeg (.int (gi h 323 x.toNatClampNeg))) 324 x.toNatClampNeg))) 326 x.toNatClampNeg))) 328 x.toNatClampNeg))) 329 y.toNatClampNeg (.int (gi (rk_pt (rk_pt (rk_pt (rk_pt h 323 y.toNatClampNeg (.int (gi h 323 x.toNatClampNeg))) 324 y.toNatClampNeg (.int (gi (rk_pt h 323 y.toNatClampNeg (.int (gi h 323 x.toNatClampNeg))) 324 x.toNatClampNeg))) 326 y.toNatClampNeg (.int (gi (rk_pt (rk_pt h 323 y.toNatClampNeg (.int (gi h 323 x.toNatClampNeg))) 324 y.toNatClampNeg (.int (gi (rk_pt h 323 y.toNatClampNeg (.int (gi h 323 x.toNatClampNeg))) 324 x.toNatClampNeg))) 326 x.toNatClampNeg))) 328 y.toNatClampNeg (.int (gi (rk_pt (rk_pt (rk_pt h 323 y.toNatClampNeg (.int (gi h 323 x.toNatClampNeg))) 324 y.toNatClampNeg (.int (gi (rk_pt h 323 y.toNatClampNeg (.int (gi h 323 x.toNatClampNeg))) 324 x.toNatClampNeg))) 326 y.toNatClampNeg (.int (gi (rk_pt (rk_pt h 323 y.toNatClampNeg (.int (gi h 323 x.toNatClampNeg))) 324 y.toNatClampNeg (.int (gi (rk_pt h 323 y.toNatClampNeg (.int (gi h 323 x.toNatClampNeg))) 324 x.toNatClampNeg))) 326 x.toNatClampNeg))) 328 x.toNatClampNeg))) 329 x.toNatClampNeg))) 330 x.toNatClampNeg))) 331 y.toNatClampNeg (.int (gi (rk_pt (rk_pt (rk_pt (rk_pt (rk_pt (rk_pt h 323 y.toNatClampNeg (.int (gi h 323 x.toNatClampNeg))) 324 y.toNatClampNeg (.int (gi (rk_pt h 323 y.toNatClampNeg (.int (gi h 323 x.toNatClampNeg))) 324 x.toNatClampNeg))) 326 y.toNatClampNeg (.int (gi (rk_pt (rk_pt h 323 y.toNatClampNeg (.int (gi h 323 x.toNatClampNeg))) 324 y.toNatClampNeg (.int (gi (rk_pt h 323 y.toNatClampNeg (.int (gi h 323 x.toNatClampNeg))) 324 x.toNatClampNeg))) 326 x.toNatClampNeg))) 328 y.toNatClampNeg (.int (gi (rk_pt (rk_pt (rk_pt h 323 y.toNatClampNeg (.int (gi h 323 x.toNatClampNeg))) 324 y.toNatClampNeg (.int (gi (rk_pt h 323 y.toNatClampNeg (.int (gi h 323 x.toNatClampNeg))) 324 x.toNatClampNeg))) 326 y.toNatClampNeg (.int (gi (rk_pt (rk_pt h 323 y.toNatClampNeg (.int (gi h 323 x.toNatClampNeg))) 324 y.toNatClampNeg (.int (gi (rk_pt h 323 y.toNatClampNeg (.int (gi h 323 x.toNatClampNeg))) 324 x.toNatClampNeg))) 326 x.toNatClampNeg))) 328 x.toNatClampNeg))) 329 y.toNatClampNeg (.int (gi (rk_pt (rk_pt (rk_pt (rk_pt h 323 y.toNatClampNeg (.int (gi h 323 x.toNatClampNeg))) 324 y.toNatClampNeg (.int (gi (rk_pt h 323 y.toNatClampNeg (.int (gi h 323 x.toNatClampNeg))) 324 x.toNatClampNeg))) 326 y.toNatClampNeg (.int (gi (rk_pt (rk_pt h 323 y.toNatClampNeg (.int (gi h 323 x.toNatClampNeg))) 324 y.toNatClampNeg (.int (gi (rk_pt h 323 y.toNatClampNeg (.int (gi h 323 x.toNatClampNeg))) 324 x.toNatClampNeg))) 326 x.toNatClampNeg))) 328 y.toNatClampNeg (.int (gi (rk_pt (rk_pt (rk_pt h 323 y.toNatClampNeg (.int (gi h 323 x.toNatClampNeg))) 324 y.toNatClampNeg (.int (gi (rk_pt h 323 y.toNatClampNeg (.int (gi h 323 x.toNatClampNeg))) 324 x.toNatClampNeg))) 326 y.toNatClampNeg (.int (gi (rk_pt (rk_pt h 323 y.toNatClampNeg (.int (gi h 323 x.toNatClampNeg))) 324 y.toNatClampNeg (.int (gi (rk_pt h 323 y.toNatClampNeg (.int (gi h 323 x.toNatClampNeg))) 324 x.toNatClampNeg))) 326 x.toNatClampNeg))) 328 x.toNatClampNeg))) 329 x.toNatClampNeg))) 330 y.toNatClampNeg (.int (gi (rk_pt (rk_pt (rk_pt (rk_pt (rk_pt h 323 y.toNatClampNeg (.int (gi h 323 x.toNatClampNeg))) 324 y.toNatClampNeg (.int (gi (rk_pt h 323 y.toNatClampNeg (.int (gi h 323 x.toNatClampNeg))) 324 x.toNatClampNeg))) 326 y.toNatClampNeg (.int (gi (rk_pt (rk_pt h 323 y.toNatClampNeg (.int (gi h 323 x.toNatClampNeg))) 324 y.toNatClampNeg (.int (gi (rk_pt h 323 y.toNatClampNeg (.int (gi h 323 x.toNatClampNeg))) 324 x.toNatClampNeg))) 326 x.toNatClampNeg))) 328 y.toNatClampNeg (.int (gi (rk_pt (rk_pt (rk_pt h 323 y.toNatClampNeg (.int (gi h 323 x.toNatClampNeg))) 324 y.toNatClampNeg (.int (gi (rk_pt h 323 y.toNatClampNeg (.int (gi h 323 x.toNatClampNeg))) 324 x.toNatClampNeg))) 326 y.toNatClampNeg (.int (gi (rk_pt (rk_pt h 323 y.toNatClampNeg (.int (gi h 323 x.toNatClampNeg))) 324 y.toNatClampNeg (.int (gi (rk_pt h 323 y.toNatClampNeg (.int (gi h 323 x.toNatClampNeg))) 324 x.toNatClampNeg))) 326 x.toNatClampNeg))) 328 x.toNatClampNeg))) 329 y.toNatClampNeg (.int (gi (rk_pt (rk_pt (rk_pt (rk_pt h 323 y.toNatClampNeg (.int (gi h 323 x.toNatClampNeg))) 324 y.toNatClampNeg (.int (gi (rk_pt h 323 y.toNatClampNeg (.int (gi h 323 x.toNatClampNeg))) 324 x.toNatClampNeg))) 326 y.toNatClampNeg (.int (gi (rk_pt (rk_pt h 323 y.toNatClampNeg (.int (gi h 323 x.toNatClampNeg))) 324 y.toNatClampNeg (.int (gi (rk_pt h 323 y.toNatClampNeg (.int (gi h 323 x.toNatClampNeg))) 324 x.toNatClampNeg))) 326 x.toNatClampNeg))) 328 y.toNatClampNeg (.int (gi (rk_pt (rk_pt (rk_pt h 323 y.toNatClampNeg (.int (gi h 323 x.toNatClampNeg))) 324 y.toNatClampNeg (.int (gi (rk_pt h 323 y.toNatClampNeg (.int (gi h 323 x.toNatClampNeg))) 324 x.toNatClampNeg))) 326 y.toNatClampNeg (.int (gi (rk_pt (rk_pt h 323 y.toNatClampNeg (.int (gi h 323 x.toNatClampNeg))) 324 y.toNatClampNeg (.int (gi (rk_pt h 323 y.toNatClampNeg (.int (gi h 323 x.toNatClampNeg))) 324 x.toNatClampNeg))) 326 x.toNatClampNeg))) 328 x.toNatClampNeg))) 329 x.toNatClampNeg))) 330 x.toNatClampNeg))) 331 x.toNatClampNeg))) 332 x.toNatClampNeg))) 333 x.toNatClampNeg))) 74 rfl E hG
  try simp only [gi_x (a := 323) (a' := 324) (by decide), gi_x (a := 324) (a' := 326) (by decide), gi_x (a := 323) (a' := 326) (by decide), gi_x (a := 326) (a' := 328) (by decide), gi_x (a := 324) (a' := 328) (by decide), gi_x (a := 323) (a' := 328) (by decide), gi_x (a := 328) (a' := 329) (by decide), gi_x (a := 326) (a' := 329) (by decide), gi_x (a := 324) (a' := 329) (by decide), gi_x (a := 323) (a' := 329) (by decide), gi_x (a := 329) (a' := 330) (by decide), gi_x (a := 328) (a' := 330) (by decide), gi_x (a := 326) (a' := 330) (by decide), gi_x (a := 324) (a' := 330) (by decide), gi_x (a := 323) (a' := 330) (by decide), gi_x (a := 330) (a' := 331) (by decide), gi_x (a := 329) (a' := 331) (by decide), gi_x (a := 328) (a' := 331) (by decide), gi_x (a := 326) (a' := 331) (by decide), gi_x (a := 324) (a' := 331) (by decide), gi_x (a := 323) (a' := 331) (by decide), gi_x (a := 331) (a' := 332) (by decide), gi_x (a := 330) (a' := 332) (by decide), gi_x (a := 329) (a' := 332) (by decide), gi_x (a := 328) (a' := 332) (by decide), gi_x (a := 326) (a' := 332) (by decide), gi_x (a := 324) (a' := 332) (by decide), gi_x (a := 323) (a' := 332) (by decide), gi_x (a := 332) (a' := 333) (by decide), gi_x (a := 331) (a' := 333) (by decide), gi_x (a := 330) (a' := 333) (by decide), gi_x (a := 329) (a' := 333) (by decide), gi_x (a := 328) (a' := 333) (by decide), gi_x (a := 326) (a' := 333) (by decide), gi_x (a := 324) (a' := 333) (by decide), gi_x (a := 323) (a' := 333) (by decide)] at E hG
  replace E := E_lv [(0, .ref 316), (1, .int x), (2, .int y), (3, .int (0 : Int32))] rfl (lvs_c rfl rfl (lvs_c rfl rfl (lvs_c rfl rfl (lvs_c rfl rfl lvs_n)))) E
  exact ⟨_, (by omega), hG, E⟩
set_option maxRecDepth 100000 in
set_option maxHeartbeats 4000000 in
theorem ym_cp {n d : Nat} {h : rk_S} {o : Option Value × rk_S} {x y j : Int32} (hG : yG h) (E : rk_ex n d rm_X8_copy 110 [(0, .ref 316), (1, .int x), (2, .int y), (3, .int j)] [] h = some o) :
    (3 ≤ j.toInt ∧ ∃ m, m < n ∧ yG h ∧ rk_ex m d rm_X8_copy 143 [(0, .ref 316), (1, .int x), (2, .int y), (3, .int (0 : Int32))] [] h = some o) ∨
    (¬ (3 ≤ j.toInt) ∧ ∃ m, m < n ∧ yG (rk_pt h 325 ((((3 : Int32) * y) + j).toNatClampNeg) (.int (gi h 325 ((((3 : Int32) * x) + j).toNatClampNeg)))) ∧ rk_ex m d rm_X8_copy 110 [(0, .ref 316), (1, .int x), (2, .int y), (3, .int (j + (1 : Int32)))] [] (rk_pt h 325 ((((3 : Int32) * y) + j).toNatClampNeg) (.int (gi h 325 ((((3 : Int32) * x) + j).toNatClampNeg)))) = some o) := by
  obtain ⟨m1, hm2, E, hG⟩ := E_go (pc' := 112) (lv' := [(0, .ref 316), (1, .int x), (2, .int y), (3, .int j)]) (st' := [.int (3 : Int32), .int j]) (h' := h) 2 rfl E hG
  rcases E_if2 (tg := 141) rfl rfl E with ⟨hc, m3, hm4, E⟩ | ⟨hc, m5, hm6, E⟩
  ·
    have c7 : 3 ≤ j.toInt := hc
    clear hc
    obtain ⟨m8, hm9, E, hG⟩ := E_go (pc' := 143) (lv' := [(3, .int (0 : Int32)), (0, .ref 316), (1, .int x), (2, .int y)]) (st' := []) (h' := h) 2 rfl E hG
    replace E := E_lv [(0, .ref 316), (1, .int x), (2, .int y), (3, .int (0 : Int32))] rfl (lvs_c rfl rfl (lvs_c rfl rfl (lvs_c rfl rfl (lvs_c rfl rfl lvs_n)))) E
    exact Or.inl ⟨c7, _, (by omega), hG, E⟩
  ·
    have c11 : ¬ (3 ≤ j.toInt) := hc
    clear hc
    obtain ⟨m12, hm13, E, hG⟩ := E_go (pc' := 110) (lv' := [(3, .int (j + (1 : Int32))), (0, .ref 316), (1, .int x), (2, .int y)]) (st' := []) (h' := rk_pt h 325 ((((3 : Int32) * y) + j).toNatClampNeg) (.int (gi h 325 ((((3 : Int32) * x) + j).toNatClampNeg)))) 18 rfl E hG
    replace E := E_lv [(0, .ref 316), (1, .int x), (2, .int y), (3, .int (j + (1 : Int32)))] rfl (lvs_c rfl rfl (lvs_c rfl rfl (lvs_c rfl rfl (lvs_c rfl rfl lvs_n)))) E
    exact Or.inr ⟨c11, _, (by omega), hG, E⟩
set_option maxRecDepth 100000 in
set_option maxHeartbeats 4000000 in
theorem ym_cp1 {n d : Nat} {h : rk_S} {o : Option Value × rk_S} {x y j : Int32} (hG : yG h) (E : rk_ex n d rm_X8_copy 143 [(0, .ref 316), (1, .int x), (2, .int y), (3, .int j)] [] h = some o) :
    (16 ≤ j.toInt ∧ yG h ∧ o = (none, h)) ∨
    (¬ (16 ≤ j.toInt) ∧ ∃ m, m < n ∧ yG (rk_pt h 327 ((((16 : Int32) * y) + j).toNatClampNeg) (.int (gi h 327 ((((16 : Int32) * x) + j).toNatClampNeg)))) ∧ rk_ex m d rm_X8_copy 143 [(0, .ref 316), (1, .int x), (2, .int y), (3, .int (j + (1 : Int32)))] [] (rk_pt h 327 ((((16 : Int32) * y) + j).toNatClampNeg) (.int (gi h 327 ((((16 : Int32) * x) + j).toNatClampNeg)))) = some o) := by
  obtain ⟨m1, hm2, E, hG⟩ := E_go (pc' := 146) (lv' := [(0, .ref 316), (1, .int x), (2, .int y), (3, .int j)]) (st' := [.int (16 : Int32), .int j]) (h' := h) 2 rfl E hG
  rcases E_if2 (tg := 177) rfl rfl E with ⟨hc, m3, hm4, E⟩ | ⟨hc, m5, hm6, E⟩
  ·
    have c7 : 16 ≤ j.toInt := hc
    clear hc
    have ho8 := E_retv rfl E
    exact Or.inl ⟨c7, hG, ho8⟩
  ·
    have c9 : ¬ (16 ≤ j.toInt) := hc
    clear hc
    obtain ⟨m10, hm11, E, hG⟩ := E_go (pc' := 143) (lv' := [(3, .int (j + (1 : Int32))), (0, .ref 316), (1, .int x), (2, .int y)]) (st' := []) (h' := rk_pt h 327 ((((16 : Int32) * y) + j).toNatClampNeg) (.int (gi h 327 ((((16 : Int32) * x) + j).toNatClampNeg)))) 18 rfl E hG
    replace E := E_lv [(0, .ref 316), (1, .int x), (2, .int y), (3, .int (j + (1 : Int32)))] rfl (lvs_c rfl rfl (lvs_c rfl rfl (lvs_c rfl rfl (lvs_c rfl rfl lvs_n)))) E
    exact Or.inr ⟨c9, _, (by omega), hG, E⟩
set_option maxRecDepth 100000 in
set_option maxHeartbeats 4000000 in
theorem ym_ts0 {n d : Nat} {h : rk_S} {o : Option Value × rk_S} (hG : yG h) (E : rk_ex n d rm_X8_toldSet 0 [(0, .ref 316)] [] h = some o) :
    (∃ m, m < n ∧ yG h ∧ rk_ex m d rm_X8_toldSet 4 [(0, .ref 316), (1, .int (0 : Int32)), (2, .int (0 : Int32))] [] h = some o) := by
  obtain ⟨m1, hm2, E, hG⟩ := E_go (pc' := 4) (lv' := [(2, .int (0 : Int32)), (1, .int (0 : Int32)), (0, .ref 316)]) (st' := []) (h' := h) 4 rfl E hG
  replace E := E_lv [(0, .ref 316), (1, .int (0 : Int32)), (2, .int (0 : Int32))] rfl (lvs_c rfl rfl (lvs_c rfl rfl (lvs_c rfl rfl lvs_n))) E
  exact ⟨_, (by omega), hG, E⟩
set_option maxRecDepth 100000 in
set_option maxHeartbeats 4000000 in
theorem ym_ts {n d : Nat} {h : rk_S} {o : Option Value × rk_S} {w j : Int32} (hG : yG h) (E : rk_ex n d rm_X8_toldSet 4 [(0, .ref 316), (1, .int w), (2, .int j)] [] h = some o) :
    ((gi h 316 0).toInt ≤ j.toInt ∧ yG h ∧ o = (some (.int w), h)) ∨
    (¬ ((gi h 316 0).toInt ≤ j.toInt) ∧ (gi h 319 j.toNatClampNeg).toInt = 0 ∧ ∃ m, m < n ∧ yG h ∧ rk_ex m d rm_X8_toldSet 4 [(0, .ref 316), (1, .int (w ||| (0 : Int32))), (2, .int (j + (1 : Int32)))] [] h = some o) ∨
    (¬ ((gi h 316 0).toInt ≤ j.toInt) ∧ ¬ ((gi h 319 j.toNatClampNeg).toInt = 0) ∧ ∃ m, m < n ∧ yG h ∧ rk_ex m d rm_X8_toldSet 4 [(0, .ref 316), (1, .int (w ||| ((1 : Int32) <<< (j &&& 31)))), (2, .int (j + (1 : Int32)))] [] h = some o) := by
  obtain ⟨m1, hm2, E, hG⟩ := E_go (pc' := 9) (lv' := [(0, .ref 316), (1, .int w), (2, .int j)]) (st' := [.int (gi h 316 0), .int j]) (h' := h) 3 rfl E hG
  rcases E_if2 (tg := 37) rfl rfl E with ⟨hc, m3, hm4, E⟩ | ⟨hc, m5, hm6, E⟩
  ·
    have c7 : (gi h 316 0).toInt ≤ j.toInt := hc
    clear hc
    obtain ⟨m8, hm9, E, hG⟩ := E_go (pc' := 38) (lv' := [(0, .ref 316), (1, .int w), (2, .int j)]) (st' := [.int w]) (h' := h) 1 rfl E hG
    have ho10 := E_reti rfl E
    exact Or.inl ⟨c7, hG, ho10⟩
  ·
    have c11 : ¬ ((gi h 316 0).toInt ≤ j.toInt) := hc
    clear hc
    obtain ⟨m12, hm13, E, hG⟩ := E_go (pc' := 19) (lv' := [(0, .ref 316), (1, .int w), (2, .int j)]) (st' := [.int (gi h 319 j.toNatClampNeg), .int w]) (h' := h) 5 rfl E hG
    rcases E_if1 (tg := 28) rfl rfl E with ⟨hc, m14, hm15, E⟩ | ⟨hc, m16, hm17, E⟩
    ·
      have c18 : (gi h 319 j.toNatClampNeg).toInt = 0 := hc
      clear hc
      obtain ⟨m19, hm20, E, hG⟩ := E_go (pc' := 4) (lv' := [(2, .int (j + (1 : Int32))), (1, .int (w ||| (0 : Int32))), (0, .ref 316)]) (st' := []) (h' := h) 5 rfl E hG
      replace E := E_lv [(0, .ref 316), (1, .int (w ||| (0 : Int32))), (2, .int (j + (1 : Int32)))] rfl (lvs_c rfl rfl (lvs_c rfl rfl (lvs_c rfl rfl lvs_n))) E
      exact Or.inr (Or.inl ⟨c11, c18, _, (by omega), hG, E⟩)
    ·
      have c22 : ¬ ((gi h 319 j.toNatClampNeg).toInt = 0) := hc
      clear hc
      obtain ⟨m23, hm24, E, hG⟩ := E_go (pc' := 4) (lv' := [(2, .int (j + (1 : Int32))), (1, .int (w ||| ((1 : Int32) <<< (j &&& 31)))), (0, .ref 316)]) (st' := []) (h' := h) 8 rfl E hG
      replace E := E_lv [(0, .ref 316), (1, .int (w ||| ((1 : Int32) <<< (j &&& 31)))), (2, .int (j + (1 : Int32)))] rfl (lvs_c rfl rfl (lvs_c rfl rfl (lvs_c rfl rfl lvs_n))) E
      exact Or.inr (Or.inr ⟨c11, c22, _, (by omega), hG, E⟩)
set_option maxRecDepth 100000 in
set_option maxHeartbeats 4000000 in
theorem ym_ru {n d : Nat} {h : rk_S} {o : Option Value × rk_S} {r a b c : Int32} (hG : yG h) (E : rk_ex n d rm_X8_run 0 [(0, .ref 316), (1, .int r), (2, .int a), (3, .int b), (4, .int c)] [] h = some o) :
    (r.toInt < 0 ∧ yG h ∧ o = (some (.int ((-1) : Int32)), h)) ∨
    (¬ (r.toInt < 0) ∧ ((gi h 316 0) - (1 : Int32)).toInt < r.toInt ∧ yG h ∧ o = (some (.int ((-1) : Int32)), h)) ∨
    (¬ (r.toInt < 0) ∧ ¬ (((gi h 316 0) - (1 : Int32)).toInt < r.toInt) ∧ ∃ m, m < n + 1 ∧ yG h ∧ rk_ex m d rm_X8_run 13 [(0, .ref 316), (1, .int r), (2, .int a), (3, .int b), (4, .int c)] [.ref 316, .int (0 : Int32), .ref 316] h = some o) := by
  obtain ⟨m1, hm2, E, hG⟩ := E_go (pc' := 2) (lv' := [(0, .ref 316), (1, .int r), (2, .int a), (3, .int b), (4, .int c)]) (st' := [.int r, .ref 316]) (h' := h) 2 rfl E hG
  obtain ⟨m3, d4, o5, hm7, E6, F6⟩ := E_call (ar := ([.ref 316, .int r], [])) rfl rfl rfl rfl rfl rfl E
  replace E6 : rk_ex m3 d4 rm_X8_isRoutine 0 [(0, .ref 316), (1, .int r)] [] h = some o5 := E6
  obtain ⟨m8, hm9, E6, hG⟩ := E_go (pc' := 8) (lv' := [(0, .ref 316), (1, .int r)]) (st' := [.int ((gi h 316 0) - (1 : Int32)), .int (0 : Int32), .int r]) (h' := h) 6 rfl E6 hG
  obtain ⟨m10, d11, o12, hm14, E13, F13⟩ := E_call (ar := ([.int r, .int (0 : Int32), .int ((gi h 316 0) - (1 : Int32))], [])) rfl rfl rfl rfl rfl rfl E6
  replace E13 : rk_ex m10 d11 rm_X8_in 0 [(0, .int r), (1, .int (0 : Int32)), (2, .int ((gi h 316 0) - (1 : Int32)))] [] h = some o12 := E13
  obtain ⟨m15, hm16, E13, hG⟩ := E_go (pc' := 2) (lv' := [(0, .int r), (1, .int (0 : Int32)), (2, .int ((gi h 316 0) - (1 : Int32)))]) (st' := [.int (0 : Int32), .int r]) (h' := h) 2 rfl E13 hG
  rcases E_if2 (tg := 14) rfl rfl E13 with ⟨hc, m17, hm18, E13⟩ | ⟨hc, m19, hm20, E13⟩
  ·
    have c21 : r.toInt < 0 := hc
    clear hc
    obtain ⟨m22, hm23, E13, hG⟩ := E_go (pc' := 15) (lv' := [(0, .int r), (1, .int (0 : Int32)), (2, .int ((gi h 316 0) - (1 : Int32)))]) (st' := [.int (0 : Int32)]) (h' := h) 1 rfl E13 hG
    have ho24 := E_reti rfl E13
    subst ho24
    have E6 : rk_ex m10 d4 rm_X8_isRoutine 11 [(0, .ref 316), (1, .int r)] [.int (0 : Int32)] h = some o5 := F13
    have ho25 := E_reti rfl E6
    subst ho25
    have E : rk_ex m3 d rm_X8_run 5 [(0, .ref 316), (1, .int r), (2, .int a), (3, .int b), (4, .int c)] [.int (0 : Int32)] h = some o := F6
    rcases E_if1 (tg := 10) rfl rfl E with ⟨hc, m26, hm27, E⟩ | ⟨hc, m28, hm29, E⟩
    · exact absurd (show ¬ (0 : Int) = 0 from hc) (by decide)
    ·
      clear hc
      obtain ⟨m30, hm31, E, hG⟩ := E_go (pc' := 9) (lv' := [(0, .ref 316), (1, .int r), (2, .int a), (3, .int b), (4, .int c)]) (st' := [.int ((-1) : Int32)]) (h' := h) 1 rfl E hG
      have ho32 := E_reti rfl E
      exact Or.inl ⟨c21, hG, ho32⟩
  ·
    have c33 : ¬ (r.toInt < 0) := hc
    clear hc
    obtain ⟨m34, hm35, E13, hG⟩ := E_go (pc' := 7) (lv' := [(0, .int r), (1, .int (0 : Int32)), (2, .int ((gi h 316 0) - (1 : Int32)))]) (st' := [.int ((gi h 316 0) - (1 : Int32)), .int r]) (h' := h) 2 rfl E13 hG
    rcases E_if2 (tg := 14) rfl rfl E13 with ⟨hc, m36, hm37, E13⟩ | ⟨hc, m38, hm39, E13⟩
    ·
      have c40 : ((gi h 316 0) - (1 : Int32)).toInt < r.toInt := hc
      clear hc
      obtain ⟨m41, hm42, E13, hG⟩ := E_go (pc' := 15) (lv' := [(0, .int r), (1, .int (0 : Int32)), (2, .int ((gi h 316 0) - (1 : Int32)))]) (st' := [.int (0 : Int32)]) (h' := h) 1 rfl E13 hG
      have ho43 := E_reti rfl E13
      subst ho43
      have E6 : rk_ex m10 d4 rm_X8_isRoutine 11 [(0, .ref 316), (1, .int r)] [.int (0 : Int32)] h = some o5 := F13
      have ho44 := E_reti rfl E6
      subst ho44
      have E : rk_ex m3 d rm_X8_run 5 [(0, .ref 316), (1, .int r), (2, .int a), (3, .int b), (4, .int c)] [.int (0 : Int32)] h = some o := F6
      rcases E_if1 (tg := 10) rfl rfl E with ⟨hc, m45, hm46, E⟩ | ⟨hc, m47, hm48, E⟩
      · exact absurd (show ¬ (0 : Int) = 0 from hc) (by decide)
      ·
        clear hc
        obtain ⟨m49, hm50, E, hG⟩ := E_go (pc' := 9) (lv' := [(0, .ref 316), (1, .int r), (2, .int a), (3, .int b), (4, .int c)]) (st' := [.int ((-1) : Int32)]) (h' := h) 1 rfl E hG
        have ho51 := E_reti rfl E
        exact Or.inr (Or.inl ⟨c33, c40, hG, ho51⟩)
    ·
      have c52 : ¬ (((gi h 316 0) - (1 : Int32)).toInt < r.toInt) := hc
      clear hc
      obtain ⟨m53, hm54, E13, hG⟩ := E_go (pc' := 15) (lv' := [(0, .int r), (1, .int (0 : Int32)), (2, .int ((gi h 316 0) - (1 : Int32)))]) (st' := [.int (1 : Int32)]) (h' := h) 2 rfl E13 hG
      have ho55 := E_reti rfl E13
      subst ho55
      have E6 : rk_ex m10 d4 rm_X8_isRoutine 11 [(0, .ref 316), (1, .int r)] [.int (1 : Int32)] h = some o5 := F13
      have ho56 := E_reti rfl E6
      subst ho56
      have E : rk_ex m3 d rm_X8_run 5 [(0, .ref 316), (1, .int r), (2, .int a), (3, .int b), (4, .int c)] [.int (1 : Int32)] h = some o := F6
      rcases E_if1 (tg := 10) rfl rfl E with ⟨hc, m57, hm58, E⟩ | ⟨hc, m59, hm60, E⟩
      ·
        clear hc
        obtain ⟨m61, hm62, E, hG⟩ := E_go (pc' := 13) (lv' := [(0, .ref 316), (1, .int r), (2, .int a), (3, .int b), (4, .int c)]) (st' := [.ref 316, .int (0 : Int32), .ref 316]) (h' := h) 3 rfl E hG
        exact Or.inr (Or.inr ⟨c33, c52, _, (by omega), hG, E⟩)
      · exact absurd (show ¬ (¬ (1 : Int) = 0) from hc) (by decide)
set_option maxRecDepth 100000 in
set_option maxHeartbeats 4000000 in
theorem ym_ru1 {n d : Nat} {h : rk_S} {o : Option Value × rk_S} {r a b c w : Int32} (hG : yG h) (E : rk_ex n d rm_X8_run 16 [(0, .ref 316), (1, .int r), (2, .int a), (3, .int b), (4, .int c)] [.int w, .int (0 : Int32), .ref 316] h = some o) :
    (∃ m, m < n + 1 ∧ yG h ∧ rk_ex m d rm_X8_run 25 [(0, .ref 316), (1, .int r), (2, .int a), (3, .int b), (4, .int c)] [.int c, .int b, .int a, .int r, .int (gi h 316 4), .int w, .int (0 : Int32), .ref 316] h = some o) := by
  obtain ⟨m1, hm2, E, hG⟩ := E_go (pc' := 25) (lv' := [(0, .ref 316), (1, .int r), (2, .int a), (3, .int b), (4, .int c)]) (st' := [.int c, .int b, .int a, .int r, .int (gi h 316 4), .int w, .int (0 : Int32), .ref 316]) (h' := h) 6 rfl E hG
  exact ⟨_, (by omega), hG, E⟩
set_option maxRecDepth 100000 in
set_option maxHeartbeats 4000000 in
theorem ym_ru2 {n d : Nat} {h : rk_S} {o : Option Value × rk_S} {r a b c : Int32} (hG : yG h) (E : rk_ex n d rm_X8_run 28 [(0, .ref 316), (1, .int r), (2, .int a), (3, .int b), (4, .int c)] [] h = some o) :
    (¬ (gi h 316 39).toInt = 0 ∧ yG (rk_pt (rk_pt (rk_pt (rk_pt (rk_pt (rk_pt (rk_pt h 316 42 (.int (1 : Int32))) 316 44 (.int (0 : Int32))) 343 0 (.int (gi h 316 34))) 343 1 (.int (gi h 316 35))) 343 2 (.int (gi h 316 36))) 343 3 (.int (gi h 316 37))) 343 4 (.int (gi h 316 38))) ∧ o = (some (.int (gi h 316 39)), rk_pt (rk_pt (rk_pt (rk_pt (rk_pt (rk_pt (rk_pt h 316 42 (.int (1 : Int32))) 316 44 (.int (0 : Int32))) 343 0 (.int (gi h 316 34))) 343 1 (.int (gi h 316 35))) 343 2 (.int (gi h 316 36))) 343 3 (.int (gi h 316 37))) 343 4 (.int (gi h 316 38)))) ∨
    ((gi h 316 39).toInt = 0 ∧ yG (rk_pt (rk_pt (rk_pt (rk_pt (rk_pt (rk_pt (rk_pt h 316 42 (.int (1 : Int32))) 316 44 (.int (gi h 316 41))) 343 0 (.int (gi h 316 34))) 343 1 (.int (gi h 316 35))) 343 2 (.int (gi h 316 36))) 343 3 (.int (gi h 316 37))) 343 4 (.int (gi h 316 38))) ∧ o = (some (.int (gi h 316 39)), rk_pt (rk_pt (rk_pt (rk_pt (rk_pt (rk_pt (rk_pt h 316 42 (.int (1 : Int32))) 316 44 (.int (gi h 316 41))) 343 0 (.int (gi h 316 34))) 343 1 (.int (gi h 316 35))) 343 2 (.int (gi h 316 36))) 343 3 (.int (gi h 316 37))) 343 4 (.int (gi h 316 38)))) := by
  obtain ⟨m1, hm2, E, hG⟩ := E_go (pc' := 38) (lv' := [(0, .ref 316), (1, .int r), (2, .int a), (3, .int b), (4, .int c)]) (st' := [.int (gi (rk_pt h 316 42 (.int (1 : Int32))) 316 39), .ref 316]) (h' := rk_pt h 316 42 (.int (1 : Int32))) 6 rfl E hG
  try simp only [gi_y (k := 42) (k' := 39) (by decide)] at E hG
  rcases E_if1 (tg := 48) rfl rfl E with ⟨hc, m3, hm4, E⟩ | ⟨hc, m5, hm6, E⟩
  ·
    have c7 : ¬ (gi h 316 39).toInt = 0 := hc
    clear hc
    obtain ⟨m8, hm9, E, hG⟩ := E_go (pc' := 106) (lv' := [(0, .ref 316), (1, .int r), (2, .int a), (3, .int b), (4, .int c)]) (st' := [.int (gi (rk_pt (rk_pt (rk_pt (rk_pt (rk_pt (rk_pt (rk_pt h 316 42 (.int (1 : Int32))) 316 44 (.int (0 : Int32))) 343 0 (.int (gi (rk_pt (rk_pt h 316 42 (.int (1 : Int32))) 316 44 (.int (0 : Int32))) 316 34))) 343 1 (.int (gi (rk_pt (rk_pt (rk_pt h 316 42 (.int (1 : Int32))) 316 44 (.int (0 : Int32))) 343 0 (.int (gi (rk_pt (rk_pt h 316 42 (.int (1 : Int32))) 316 44 (.int (0 : Int32))) 316 34))) 316 35))) 343 2 (.int (gi (rk_pt (rk_pt (rk_pt (rk_pt h 316 42 (.int (1 : Int32))) 316 44 (.int (0 : Int32))) 343 0 (.int (gi (rk_pt (rk_pt h 316 42 (.int (1 : Int32))) 316 44 (.int (0 : Int32))) 316 34))) 343 1 (.int (gi (rk_pt (rk_pt (rk_pt h 316 42 (.int (1 : Int32))) 316 44 (.int (0 : Int32))) 343 0 (.int (gi (rk_pt (rk_pt h 316 42 (.int (1 : Int32))) 316 44 (.int (0 : Int32))) 316 34))) 316 35))) 316 36))) 343 3 (.int (gi (rk_pt (rk_pt (rk_pt (rk_pt (rk_pt h 316 42 (.int (1 : Int32))) 316 44 (.int (0 : Int32))) 343 0 (.int (gi (rk_pt (rk_pt h 316 42 (.int (1 : Int32))) 316 44 (.int (0 : Int32))) 316 34))) 343 1 (.int (gi (rk_pt (rk_pt (rk_pt h 316 42 (.int (1 : Int32))) 316 44 (.int (0 : Int32))) 343 0 (.int (gi (rk_pt (rk_pt h 316 42 (.int (1 : Int32))) 316 44 (.int (0 : Int32))) 316 34))) 316 35))) 343 2 (.int (gi (rk_pt (rk_pt (rk_pt (rk_pt h 316 42 (.int (1 : Int32))) 316 44 (.int (0 : Int32))) 343 0 (.int (gi (rk_pt (rk_pt h 316 42 (.int (1 : Int32))) 316 44 (.int (0 : Int32))) 316 34))) 343 1 (.int (gi (rk_pt (rk_pt (rk_pt h 316 42 (.int (1 : Int32))) 316 44 (.int (0 : Int32))) 343 0 (.int (gi (rk_pt (rk_pt h 316 42 (.int (1 : Int32))) 316 44 (.int (0 : Int32))) 316 34))) 316 35))) 316 36))) 316 37))) 343 4 (.int (gi (rk_pt (rk_pt (rk_pt (rk_pt (rk_pt (rk_pt h 316 42 (.int (1 : Int32))) 316 44 (.int (0 : Int32))) 343 0 (.int (gi (rk_pt (rk_pt h 316 42 (.int (1 : Int32))) 316 44 (.int (0 : Int32))) 316 34))) 343 1 (.int (gi (rk_pt (rk_pt (rk_pt h 316 42 (.int (1 : Int32))) 316 44 (.int (0 : Int32))) 343 0 (.int (gi (rk_pt (rk_pt h 316 42 (.int (1 : Int32))) 316 44 (.int (0 : Int32))) 316 34))) 316 35))) 343 2 (.int (gi (rk_pt (rk_pt (rk_pt (rk_pt h 316 42 (.int (1 : Int32))) 316 44 (.int (0 : Int32))) 343 0 (.int (gi (rk_pt (rk_pt h 316 42 (.int (1 : Int32))) 316 44 (.int (0 : Int32))) 316 34))) 343 1 (.int (gi (rk_pt (rk_pt (rk_pt h 316 42 (.int (1 : Int32))) 316 44 (.int (0 : Int32))) 343 0 (.int (gi (rk_pt (rk_pt h 316 42 (.int (1 : Int32))) 316 44 (.int (0 : Int32))) 316 34))) 316 35))) 316 36))) 343 3 (.int (gi (rk_pt (rk_pt (rk_pt (rk_pt (rk_pt h 316 42 (.int (1 : Int32))) 316 44 (.int (0 : Int32))) 343 0 (.int (gi (rk_pt (rk_pt h 316 42 (.int (1 : Int32))) 316 44 (.int (0 : Int32))) 316 34))) 343 1 (.int (gi (rk_pt (rk_pt (rk_pt h 316 42 (.int (1 : Int32))) 316 44 (.int (0 : Int32))) 343 0 (.int (gi (rk_pt (rk_pt h 316 42 (.int (1 : Int32))) 316 44 (.int (0 : Int32))) 316 34))) 316 35))) 343 2 (.int (gi (rk_pt (rk_pt (rk_pt (rk_pt h 316 42 (.int (1 : Int32))) 316 44 (.int (0 : Int32))) 343 0 (.int (gi (rk_pt (rk_pt h 316 42 (.int (1 : Int32))) 316 44 (.int (0 : Int32))) 316 34))) 343 1 (.int (gi (rk_pt (rk_pt (rk_pt h 316 42 (.int (1 : Int32))) 316 44 (.int (0 : Int32))) 343 0 (.int (gi (rk_pt (rk_pt h 316 42 (.int (1 : Int32))) 316 44 (.int (0 : Int32))) 316 34))) 316 35))) 316 36))) 316 37))) 316 38))) 316 39)]) (h' := rk_pt (rk_pt (rk_pt (rk_pt (rk_pt (rk_pt (rk_pt h 316 42 (.int (1 : Int32))) 316 44 (.int (0 : Int32))) 343 0 (.int (gi (rk_pt (rk_pt h 316 42 (.int (1 : Int32))) 316 44 (.int (0 : Int32))) 316 34))) 343 1 (.int (gi (rk_pt (rk_pt (rk_pt h 316 42 (.int (1 : Int32))) 316 44 (.int (0 : Int32))) 343 0 (.int (gi (rk_pt (rk_pt h 316 42 (.int (1 : Int32))) 316 44 (.int (0 : Int32))) 316 34))) 316 35))) 343 2 (.int (gi (rk_pt (rk_pt (rk_pt (rk_pt h 316 42 (.int (1 : Int32))) 316 44 (.int (0 : Int32))) 343 0 (.int (gi (rk_pt (rk_pt h 316 42 (.int (1 : Int32))) 316 44 (.int (0 : Int32))) 316 34))) 343 1 (.int (gi (rk_pt (rk_pt (rk_pt h 316 42 (.int (1 : Int32))) 316 44 (.int (0 : Int32))) 343 0 (.int (gi (rk_pt (rk_pt h 316 42 (.int (1 : Int32))) 316 44 (.int (0 : Int32))) 316 34))) 316 35))) 316 36))) 343 3 (.int (gi (rk_pt (rk_pt (rk_pt (rk_pt (rk_pt h 316 42 (.int (1 : Int32))) 316 44 (.int (0 : Int32))) 343 0 (.int (gi (rk_pt (rk_pt h 316 42 (.int (1 : Int32))) 316 44 (.int (0 : Int32))) 316 34))) 343 1 (.int (gi (rk_pt (rk_pt (rk_pt h 316 42 (.int (1 : Int32))) 316 44 (.int (0 : Int32))) 343 0 (.int (gi (rk_pt (rk_pt h 316 42 (.int (1 : Int32))) 316 44 (.int (0 : Int32))) 316 34))) 316 35))) 343 2 (.int (gi (rk_pt (rk_pt (rk_pt (rk_pt h 316 42 (.int (1 : Int32))) 316 44 (.int (0 : Int32))) 343 0 (.int (gi (rk_pt (rk_pt h 316 42 (.int (1 : Int32))) 316 44 (.int (0 : Int32))) 316 34))) 343 1 (.int (gi (rk_pt (rk_pt (rk_pt h 316 42 (.int (1 : Int32))) 316 44 (.int (0 : Int32))) 343 0 (.int (gi (rk_pt (rk_pt h 316 42 (.int (1 : Int32))) 316 44 (.int (0 : Int32))) 316 34))) 316 35))) 316 36))) 316 37))) 343 4 (.int (gi (rk_pt (rk_pt (rk_pt (rk_pt (rk_pt (rk_pt h 316 42 (.int (1 : Int32))) 316 44 (.int (0 : Int32))) 343 0 (.int (gi (rk_pt (rk_pt h 316 42 (.int (1 : Int32))) 316 44 (.int (0 : Int32))) 316 34))) 343 1 (.int (gi (rk_pt (rk_pt (rk_pt h 316 42 (.int (1 : Int32))) 316 44 (.int (0 : Int32))) 343 0 (.int (gi (rk_pt (rk_pt h 316 42 (.int (1 : Int32))) 316 44 (.int (0 : Int32))) 316 34))) 316 35))) 343 2 (.int (gi (rk_pt (rk_pt (rk_pt (rk_pt h 316 42 (.int (1 : Int32))) 316 44 (.int (0 : Int32))) 343 0 (.int (gi (rk_pt (rk_pt h 316 42 (.int (1 : Int32))) 316 44 (.int (0 : Int32))) 316 34))) 343 1 (.int (gi (rk_pt (rk_pt (rk_pt h 316 42 (.int (1 : Int32))) 316 44 (.int (0 : Int32))) 343 0 (.int (gi (rk_pt (rk_pt h 316 42 (.int (1 : Int32))) 316 44 (.int (0 : Int32))) 316 34))) 316 35))) 316 36))) 343 3 (.int (gi (rk_pt (rk_pt (rk_pt (rk_pt (rk_pt h 316 42 (.int (1 : Int32))) 316 44 (.int (0 : Int32))) 343 0 (.int (gi (rk_pt (rk_pt h 316 42 (.int (1 : Int32))) 316 44 (.int (0 : Int32))) 316 34))) 343 1 (.int (gi (rk_pt (rk_pt (rk_pt h 316 42 (.int (1 : Int32))) 316 44 (.int (0 : Int32))) 343 0 (.int (gi (rk_pt (rk_pt h 316 42 (.int (1 : Int32))) 316 44 (.int (0 : Int32))) 316 34))) 316 35))) 343 2 (.int (gi (rk_pt (rk_pt (rk_pt (rk_pt h 316 42 (.int (1 : Int32))) 316 44 (.int (0 : Int32))) 343 0 (.int (gi (rk_pt (rk_pt h 316 42 (.int (1 : Int32))) 316 44 (.int (0 : Int32))) 316 34))) 343 1 (.int (gi (rk_pt (rk_pt (rk_pt h 316 42 (.int (1 : Int32))) 316 44 (.int (0 : Int32))) 343 0 (.int (gi (rk_pt (rk_pt h 316 42 (.int (1 : Int32))) 316 44 (.int (0 : Int32))) 316 34))) 316 35))) 316 36))) 316 37))) 316 38))) 34 rfl E hG
    try simp only [gi_y (k := 44) (k' := 34) (by decide), gi_y (k := 42) (k' := 34) (by decide), gi_x (a := 343) (a' := 316) (by decide), gi_y (k := 44) (k' := 35) (by decide), gi_y (k := 42) (k' := 35) (by decide), gi_y (k := 44) (k' := 36) (by decide), gi_y (k := 42) (k' := 36) (by decide), gi_y (k := 44) (k' := 37) (by decide), gi_y (k := 42) (k' := 37) (by decide), gi_y (k := 44) (k' := 38) (by decide), gi_y (k := 42) (k' := 38) (by decide), gi_y (k := 44) (k' := 39) (by decide), gi_y (k := 42) (k' := 39) (by decide)] at E hG
    have ho10 := E_reti rfl E
    exact Or.inl ⟨c7, hG, ho10⟩
  ·
    have c11 : (gi h 316 39).toInt = 0 := Decidable.not_not.mp hc
    clear hc
    obtain ⟨m12, hm13, E, hG⟩ := E_go (pc' := 106) (lv' := [(0, .ref 316), (1, .int r), (2, .int a), (3, .int b), (4, .int c)]) (st' := [.int (gi (rk_pt (rk_pt (rk_pt (rk_pt (rk_pt (rk_pt (rk_pt h 316 42 (.int (1 : Int32))) 316 44 (.int (gi (rk_pt h 316 42 (.int (1 : Int32))) 316 41))) 343 0 (.int (gi (rk_pt (rk_pt h 316 42 (.int (1 : Int32))) 316 44 (.int (gi (rk_pt h 316 42 (.int (1 : Int32))) 316 41))) 316 34))) 343 1 (.int (gi (rk_pt (rk_pt (rk_pt h 316 42 (.int (1 : Int32))) 316 44 (.int (gi (rk_pt h 316 42 (.int (1 : Int32))) 316 41))) 343 0 (.int (gi (rk_pt (rk_pt h 316 42 (.int (1 : Int32))) 316 44 (.int (gi (rk_pt h 316 42 (.int (1 : Int32))) 316 41))) 316 34))) 316 35))) 343 2 (.int (gi (rk_pt (rk_pt (rk_pt (rk_pt h 316 42 (.int (1 : Int32))) 316 44 (.int (gi (rk_pt h 316 42 (.int (1 : Int32))) 316 41))) 343 0 (.int (gi (rk_pt (rk_pt h 316 42 (.int (1 : Int32))) 316 44 (.int (gi (rk_pt h 316 42 (.int (1 : Int32))) 316 41))) 316 34))) 343 1 (.int (gi (rk_pt (rk_pt (rk_pt h 316 42 (.int (1 : Int32))) 316 44 (.int (gi (rk_pt h 316 42 (.int (1 : Int32))) 316 41))) 343 0 (.int (gi (rk_pt (rk_pt h 316 42 (.int (1 : Int32))) 316 44 (.int (gi (rk_pt h 316 42 (.int (1 : Int32))) 316 41))) 316 34))) 316 35))) 316 36))) 343 3 (.int (gi (rk_pt (rk_pt (rk_pt (rk_pt (rk_pt h 316 42 (.int (1 : Int32))) 316 44 (.int (gi (rk_pt h 316 42 (.int (1 : Int32))) 316 41))) 343 0 (.int (gi (rk_pt (rk_pt h 316 42 (.int (1 : Int32))) 316 44 (.int (gi (rk_pt h 316 42 (.int (1 : Int32))) 316 41))) 316 34))) 343 1 (.int (gi (rk_pt (rk_pt (rk_pt h 316 42 (.int (1 : Int32))) 316 44 (.int (gi (rk_pt h 316 42 (.int (1 : Int32))) 316 41))) 343 0 (.int (gi (rk_pt (rk_pt h 316 42 (.int (1 : Int32))) 316 44 (.int (gi (rk_pt h 316 42 (.int (1 : Int32))) 316 41))) 316 34))) 316 35))) 343 2 (.int (gi (rk_pt (rk_pt (rk_pt (rk_pt h 316 42 (.int (1 : Int32))) 316 44 (.int (gi (rk_pt h 316 42 (.int (1 : Int32))) 316 41))) 343 0 (.int (gi (rk_pt (rk_pt h 316 42 (.int (1 : Int32))) 316 44 (.int (gi (rk_pt h 316 42 (.int (1 : Int32))) 316 41))) 316 34))) 343 1 (.int (gi (rk_pt (rk_pt (rk_pt h 316 42 (.int (1 : Int32))) 316 44 (.int (gi (rk_pt h 316 42 (.int (1 : Int32))) 316 41))) 343 0 (.int (gi (rk_pt (rk_pt h 316 42 (.int (1 : Int32))) 316 44 (.int (gi (rk_pt h 316 42 (.int (1 : Int32))) 316 41))) 316 34))) 316 35))) 316 36))) 316 37))) 343 4 (.int (gi (rk_pt (rk_pt (rk_pt (rk_pt (rk_pt (rk_pt h 316 42 (.int (1 : Int32))) 316 44 (.int (gi (rk_pt h 316 42 (.int (1 : Int32))) 316 41))) 343 0 (.int (gi (rk_pt (rk_pt h 316 42 (.int (1 : Int32))) 316 44 (.int (gi (rk_pt h 316 42 (.int (1 : Int32))) 316 41))) 316 34))) 343 1 (.int (gi (rk_pt (rk_pt (rk_pt h 316 42 (.int (1 : Int32))) 316 44 (.int (gi (rk_pt h 316 42 (.int (1 : Int32))) 316 41))) 343 0 (.int (gi (rk_pt (rk_pt h 316 42 (.int (1 : Int32))) 316 44 (.int (gi (rk_pt h 316 42 (.int (1 : Int32))) 316 41))) 316 34))) 316 35))) 343 2 (.int (gi (rk_pt (rk_pt (rk_pt (rk_pt h 316 42 (.int (1 : Int32))) 316 44 (.int (gi (rk_pt h 316 42 (.int (1 : Int32))) 316 41))) 343 0 (.int (gi (rk_pt (rk_pt h 316 42 (.int (1 : Int32))) 316 44 (.int (gi (rk_pt h 316 42 (.int (1 : Int32))) 316 41))) 316 34))) 343 1 (.int (gi (rk_pt (rk_pt (rk_pt h 316 42 (.int (1 : Int32))) 316 44 (.int (gi (rk_pt h 316 42 (.int (1 : Int32))) 316 41))) 343 0 (.int (gi (rk_pt (rk_pt h 316 42 (.int (1 : Int32))) 316 44 (.int (gi (rk_pt h 316 42 (.int (1 : Int32))) 316 41))) 316 34))) 316 35))) 316 36))) 343 3 (.int (gi (rk_pt (rk_pt (rk_pt (rk_pt (rk_pt h 316 42 (.int (1 : Int32))) 316 44 (.int (gi (rk_pt h 316 42 (.int (1 : Int32))) 316 41))) 343 0 (.int (gi (rk_pt (rk_pt h 316 42 (.int (1 : Int32))) 316 44 (.int (gi (rk_pt h 316 42 (.int (1 : Int32))) 316 41))) 316 34))) 343 1 (.int (gi (rk_pt (rk_pt (rk_pt h 316 42 (.int (1 : Int32))) 316 44 (.int (gi (rk_pt h 316 42 (.int (1 : Int32))) 316 41))) 343 0 (.int (gi (rk_pt (rk_pt h 316 42 (.int (1 : Int32))) 316 44 (.int (gi (rk_pt h 316 42 (.int (1 : Int32))) 316 41))) 316 34))) 316 35))) 343 2 (.int (gi (rk_pt (rk_pt (rk_pt (rk_pt h 316 42 (.int (1 : Int32))) 316 44 (.int (gi (rk_pt h 316 42 (.int (1 : Int32))) 316 41))) 343 0 (.int (gi (rk_pt (rk_pt h 316 42 (.int (1 : Int32))) 316 44 (.int (gi (rk_pt h 316 42 (.int (1 : Int32))) 316 41))) 316 34))) 343 1 (.int (gi (rk_pt (rk_pt (rk_pt h 316 42 (.int (1 : Int32))) 316 44 (.int (gi (rk_pt h 316 42 (.int (1 : Int32))) 316 41))) 343 0 (.int (gi (rk_pt (rk_pt h 316 42 (.int (1 : Int32))) 316 44 (.int (gi (rk_pt h 316 42 (.int (1 : Int32))) 316 41))) 316 34))) 316 35))) 316 36))) 316 37))) 316 38))) 316 39)]) (h' := rk_pt (rk_pt (rk_pt (rk_pt (rk_pt (rk_pt (rk_pt h 316 42 (.int (1 : Int32))) 316 44 (.int (gi (rk_pt h 316 42 (.int (1 : Int32))) 316 41))) 343 0 (.int (gi (rk_pt (rk_pt h 316 42 (.int (1 : Int32))) 316 44 (.int (gi (rk_pt h 316 42 (.int (1 : Int32))) 316 41))) 316 34))) 343 1 (.int (gi (rk_pt (rk_pt (rk_pt h 316 42 (.int (1 : Int32))) 316 44 (.int (gi (rk_pt h 316 42 (.int (1 : Int32))) 316 41))) 343 0 (.int (gi (rk_pt (rk_pt h 316 42 (.int (1 : Int32))) 316 44 (.int (gi (rk_pt h 316 42 (.int (1 : Int32))) 316 41))) 316 34))) 316 35))) 343 2 (.int (gi (rk_pt (rk_pt (rk_pt (rk_pt h 316 42 (.int (1 : Int32))) 316 44 (.int (gi (rk_pt h 316 42 (.int (1 : Int32))) 316 41))) 343 0 (.int (gi (rk_pt (rk_pt h 316 42 (.int (1 : Int32))) 316 44 (.int (gi (rk_pt h 316 42 (.int (1 : Int32))) 316 41))) 316 34))) 343 1 (.int (gi (rk_pt (rk_pt (rk_pt h 316 42 (.int (1 : Int32))) 316 44 (.int (gi (rk_pt h 316 42 (.int (1 : Int32))) 316 41))) 343 0 (.int (gi (rk_pt (rk_pt h 316 42 (.int (1 : Int32))) 316 44 (.int (gi (rk_pt h 316 42 (.int (1 : Int32))) 316 41))) 316 34))) 316 35))) 316 36))) 343 3 (.int (gi (rk_pt (rk_pt (rk_pt (rk_pt (rk_pt h 316 42 (.int (1 : Int32))) 316 44 (.int (gi (rk_pt h 316 42 (.int (1 : Int32))) 316 41))) 343 0 (.int (gi (rk_pt (rk_pt h 316 42 (.int (1 : Int32))) 316 44 (.int (gi (rk_pt h 316 42 (.int (1 : Int32))) 316 41))) 316 34))) 343 1 (.int (gi (rk_pt (rk_pt (rk_pt h 316 42 (.int (1 : Int32))) 316 44 (.int (gi (rk_pt h 316 42 (.int (1 : Int32))) 316 41))) 343 0 (.int (gi (rk_pt (rk_pt h 316 42 (.int (1 : Int32))) 316 44 (.int (gi (rk_pt h 316 42 (.int (1 : Int32))) 316 41))) 316 34))) 316 35))) 343 2 (.int (gi (rk_pt (rk_pt (rk_pt (rk_pt h 316 42 (.int (1 : Int32))) 316 44 (.int (gi (rk_pt h 316 42 (.int (1 : Int32))) 316 41))) 343 0 (.int (gi (rk_pt (rk_pt h 316 42 (.int (1 : Int32))) 316 44 (.int (gi (rk_pt h 316 42 (.int (1 : Int32))) 316 41))) 316 34))) 343 1 (.int (gi (rk_pt (rk_pt (rk_pt h 316 42 (.int (1 : Int32))) 316 44 (.int (gi (rk_pt h 316 42 (.int (1 : Int32))) 316 41))) 343 0 (.int (gi (rk_pt (rk_pt h 316 42 (.int (1 : Int32))) 316 44 (.int (gi (rk_pt h 316 42 (.int (1 : Int32))) 316 41))) 316 34))) 316 35))) 316 36))) 316 37))) 343 4 (.int (gi (rk_pt (rk_pt (rk_pt (rk_pt (rk_pt (rk_pt h 316 42 (.int (1 : Int32))) 316 44 (.int (gi (rk_pt h 316 42 (.int (1 : Int32))) 316 41))) 343 0 (.int (gi (rk_pt (rk_pt h 316 42 (.int (1 : Int32))) 316 44 (.int (gi (rk_pt h 316 42 (.int (1 : Int32))) 316 41))) 316 34))) 343 1 (.int (gi (rk_pt (rk_pt (rk_pt h 316 42 (.int (1 : Int32))) 316 44 (.int (gi (rk_pt h 316 42 (.int (1 : Int32))) 316 41))) 343 0 (.int (gi (rk_pt (rk_pt h 316 42 (.int (1 : Int32))) 316 44 (.int (gi (rk_pt h 316 42 (.int (1 : Int32))) 316 41))) 316 34))) 316 35))) 343 2 (.int (gi (rk_pt (rk_pt (rk_pt (rk_pt h 316 42 (.int (1 : Int32))) 316 44 (.int (gi (rk_pt h 316 42 (.int (1 : Int32))) 316 41))) 343 0 (.int (gi (rk_pt (rk_pt h 316 42 (.int (1 : Int32))) 316 44 (.int (gi (rk_pt h 316 42 (.int (1 : Int32))) 316 41))) 316 34))) 343 1 (.int (gi (rk_pt (rk_pt (rk_pt h 316 42 (.int (1 : Int32))) 316 44 (.int (gi (rk_pt h 316 42 (.int (1 : Int32))) 316 41))) 343 0 (.int (gi (rk_pt (rk_pt h 316 42 (.int (1 : Int32))) 316 44 (.int (gi (rk_pt h 316 42 (.int (1 : Int32))) 316 41))) 316 34))) 316 35))) 316 36))) 343 3 (.int (gi (rk_pt (rk_pt (rk_pt (rk_pt (rk_pt h 316 42 (.int (1 : Int32))) 316 44 (.int (gi (rk_pt h 316 42 (.int (1 : Int32))) 316 41))) 343 0 (.int (gi (rk_pt (rk_pt h 316 42 (.int (1 : Int32))) 316 44 (.int (gi (rk_pt h 316 42 (.int (1 : Int32))) 316 41))) 316 34))) 343 1 (.int (gi (rk_pt (rk_pt (rk_pt h 316 42 (.int (1 : Int32))) 316 44 (.int (gi (rk_pt h 316 42 (.int (1 : Int32))) 316 41))) 343 0 (.int (gi (rk_pt (rk_pt h 316 42 (.int (1 : Int32))) 316 44 (.int (gi (rk_pt h 316 42 (.int (1 : Int32))) 316 41))) 316 34))) 316 35))) 343 2 (.int (gi (rk_pt (rk_pt (rk_pt (rk_pt h 316 42 (.int (1 : Int32))) 316 44 (.int (gi (rk_pt h 316 42 (.int (1 : Int32))) 316 41))) 343 0 (.int (gi (rk_pt (rk_pt h 316 42 (.int (1 : Int32))) 316 44 (.int (gi (rk_pt h 316 42 (.int (1 : Int32))) 316 41))) 316 34))) 343 1 (.int (gi (rk_pt (rk_pt (rk_pt h 316 42 (.int (1 : Int32))) 316 44 (.int (gi (rk_pt h 316 42 (.int (1 : Int32))) 316 41))) 343 0 (.int (gi (rk_pt (rk_pt h 316 42 (.int (1 : Int32))) 316 44 (.int (gi (rk_pt h 316 42 (.int (1 : Int32))) 316 41))) 316 34))) 316 35))) 316 36))) 316 37))) 316 38))) 36 rfl E hG
    try simp only [gi_y (k := 42) (k' := 41) (by decide), gi_y (k := 44) (k' := 34) (by decide), gi_y (k := 42) (k' := 34) (by decide), gi_x (a := 343) (a' := 316) (by decide), gi_y (k := 44) (k' := 35) (by decide), gi_y (k := 42) (k' := 35) (by decide), gi_y (k := 44) (k' := 36) (by decide), gi_y (k := 42) (k' := 36) (by decide), gi_y (k := 44) (k' := 37) (by decide), gi_y (k := 42) (k' := 37) (by decide), gi_y (k := 44) (k' := 38) (by decide), gi_y (k := 42) (k' := 38) (by decide), gi_y (k := 44) (k' := 39) (by decide), gi_y (k := 42) (k' := 39) (by decide)] at E hG
    have ho14 := E_reti rfl E
    exact Or.inr ⟨c11, hG, ho14⟩
