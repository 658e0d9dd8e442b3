/-! pieces of firstKeepable, keep; of the reference's code and keep (laid by wip/gen/y13.py) -/
/-- bitCount -/
def bcx (f : Int32) : Int32 := (((((((f - (((f.toUInt32 >>> ((1 : Int32).toUInt32 &&& Int32.toUInt32 31)).toInt32) &&& (1431655765 : Int32))) &&& (858993459 : Int32)) + ((((f - (((f.toUInt32 >>> ((1 : Int32).toUInt32 &&& Int32.toUInt32 31)).toInt32) &&& (1431655765 : Int32))).toUInt32 >>> ((2 : Int32).toUInt32 &&& Int32.toUInt32 31)).toInt32) &&& (858993459 : Int32))) + (((((f - (((f.toUInt32 >>> ((1 : Int32).toUInt32 &&& Int32.toUInt32 31)).toInt32) &&& (1431655765 : Int32))) &&& (858993459 : Int32)) + ((((f - (((f.toUInt32 >>> ((1 : Int32).toUInt32 &&& Int32.toUInt32 31)).toInt32) &&& (1431655765 : Int32))).toUInt32 >>> ((2 : Int32).toUInt32 &&& Int32.toUInt32 31)).toInt32) &&& (858993459 : Int32))).toUInt32 >>> ((4 : Int32).toUInt32 &&& Int32.toUInt32 31)).toInt32)) &&& (252645135 : Int32)) + (((((((f - (((f.toUInt32 >>> ((1 : Int32).toUInt32 &&& Int32.toUInt32 31)).toInt32) &&& (1431655765 : Int32))) &&& (858993459 : Int32)) + ((((f - (((f.toUInt32 >>> ((1 : Int32).toUInt32 &&& Int32.toUInt32 31)).toInt32) &&& (1431655765 : Int32))).toUInt32 >>> ((2 : Int32).toUInt32 &&& Int32.toUInt32 31)).toInt32) &&& (858993459 : Int32))) + (((((f - (((f.toUInt32 >>> ((1 : Int32).toUInt32 &&& Int32.toUInt32 31)).toInt32) &&& (1431655765 : Int32))) &&& (858993459 : Int32)) + ((((f - (((f.toUInt32 >>> ((1 : Int32).toUInt32 &&& Int32.toUInt32 31)).toInt32) &&& (1431655765 : Int32))).toUInt32 >>> ((2 : Int32).toUInt32 &&& Int32.toUInt32 31)).toInt32) &&& (858993459 : Int32))).toUInt32 >>> ((4 : Int32).toUInt32 &&& Int32.toUInt32 31)).toInt32)) &&& (252645135 : Int32)).toUInt32 >>> ((8 : Int32).toUInt32 &&& Int32.toUInt32 31)).toInt32)) + ((((((((f - (((f.toUInt32 >>> ((1 : Int32).toUInt32 &&& Int32.toUInt32 31)).toInt32) &&& (1431655765 : Int32))) &&& (858993459 : Int32)) + ((((f - (((f.toUInt32 >>> ((1 : Int32).toUInt32 &&& Int32.toUInt32 31)).toInt32) &&& (1431655765 : Int32))).toUInt32 >>> ((2 : Int32).toUInt32 &&& Int32.toUInt32 31)).toInt32) &&& (858993459 : Int32))) + (((((f - (((f.toUInt32 >>> ((1 : Int32).toUInt32 &&& Int32.toUInt32 31)).toInt32) &&& (1431655765 : Int32))) &&& (858993459 : Int32)) + ((((f - (((f.toUInt32 >>> ((1 : Int32).toUInt32 &&& Int32.toUInt32 31)).toInt32) &&& (1431655765 : Int32))).toUInt32 >>> ((2 : Int32).toUInt32 &&& Int32.toUInt32 31)).toInt32) &&& (858993459 : Int32))).toUInt32 >>> ((4 : Int32).toUInt32 &&& Int32.toUInt32 31)).toInt32)) &&& (252645135 : Int32)) + (((((((f - (((f.toUInt32 >>> ((1 : Int32).toUInt32 &&& Int32.toUInt32 31)).toInt32) &&& (1431655765 : Int32))) &&& (858993459 : Int32)) + ((((f - (((f.toUInt32 >>> ((1 : Int32).toUInt32 &&& Int32.toUInt32 31)).toInt32) &&& (1431655765 : Int32))).toUInt32 >>> ((2 : Int32).toUInt32 &&& Int32.toUInt32 31)).toInt32) &&& (858993459 : Int32))) + (((((f - (((f.toUInt32 >>> ((1 : Int32).toUInt32 &&& Int32.toUInt32 31)).toInt32) &&& (1431655765 : Int32))) &&& (858993459 : Int32)) + ((((f - (((f.toUInt32 >>> ((1 : Int32).toUInt32 &&& Int32.toUInt32 31)).toInt32) &&& (1431655765 : Int32))).toUInt32 >>> ((2 : Int32).toUInt32 &&& Int32.toUInt32 31)).toInt32) &&& (858993459 : Int32))).toUInt32 >>> ((4 : Int32).toUInt32 &&& Int32.toUInt32 31)).toInt32)) &&& (252645135 : Int32)).toUInt32 >>> ((8 : Int32).toUInt32 &&& Int32.toUInt32 31)).toInt32)).toUInt32 >>> ((16 : Int32).toUInt32 &&& Int32.toUInt32 31)).toInt32)) &&& (63 : Int32)
set_option maxRecDepth 100000 in
set_option maxHeartbeats 4000000 in
theorem yt_bc {n d : Nat} {h : rk_S} {o : Option Value × rk_S} {f : Int32} (hG : yG h) (E : rk_ex n d rm_J6_bitCount_0f7a4 0 [(0, .int f)] [] h = some o) :
    (yG h ∧ o = (some (.int (bcx f)), h)) := by
  obtain ⟨m1, hm2, E, hG⟩ := E_go (pc' := 52) (lv' := [(0, .int (((((((f - (((f.toUInt32 >>> ((1 : Int32).toUInt32 &&& Int32.toUInt32 31)).toInt32) &&& (1431655765 : Int32))) &&& (858993459 : Int32)) + ((((f - (((f.toUInt32 >>> ((1 : Int32).toUInt32 &&& Int32.toUInt32 31)).toInt32) &&& (1431655765 : Int32))).toUInt32 >>> ((2 : Int32).toUInt32 &&& Int32.toUInt32 31)).toInt32) &&& (858993459 : Int32))) + (((((f - (((f.toUInt32 >>> ((1 : Int32).toUInt32 &&& Int32.toUInt32 31)).toInt32) &&& (1431655765 : Int32))) &&& (858993459 : Int32)) + ((((f - (((f.toUInt32 >>> ((1 : Int32).toUInt32 &&& Int32.toUInt32 31)).toInt32) &&& (1431655765 : Int32))).toUInt32 >>> ((2 : Int32).toUInt32 &&& Int32.toUInt32 31)).toInt32) &&& (858993459 : Int32))).toUInt32 >>> ((4 : Int32).toUInt32 &&& Int32.toUInt32 31)).toInt32)) &&& (252645135 : Int32)) + (((((((f - (((f.toUInt32 >>> ((1 : Int32).toUInt32 &&& Int32.toUInt32 31)).toInt32) &&& (1431655765 : Int32))) &&& (858993459 : Int32)) + ((((f - (((f.toUInt32 >>> ((1 : Int32).toUInt32 &&& Int32.toUInt32 31)).toInt32) &&& (1431655765 : Int32))).toUInt32 >>> ((2 : Int32).toUInt32 &&& Int32.toUInt32 31)).toInt32) &&& (858993459 : Int32))) + (((((f - (((f.toUInt32 >>> ((1 : Int32).toUInt32 &&& Int32.toUInt32 31)).toInt32) &&& (1431655765 : Int32))) &&& (858993459 : Int32)) + ((((f - (((f.toUInt32 >>> ((1 : Int32).toUInt32 &&& Int32.toUInt32 31)).toInt32) &&& (1431655765 : Int32))).toUInt32 >>> ((2 : Int32).toUInt32 &&& Int32.toUInt32 31)).toInt32) &&& (858993459 : Int32))).toUInt32 >>> ((4 : Int32).toUInt32 &&& Int32.toUInt32 31)).toInt32)) &&& (252645135 : Int32)).toUInt32 >>> ((8 : Int32).toUInt32 &&& Int32.toUInt32 31)).toInt32)) + ((((((((f - (((f.toUInt32 >>> ((1 : Int32).toUInt32 &&& Int32.toUInt32 31)).toInt32) &&& (1431655765 : Int32))) &&& (858993459 : Int32)) + ((((f - (((f.toUInt32 >>> ((1 : Int32).toUInt32 &&& Int32.toUInt32 31)).toInt32) &&& (1431655765 : Int32))).toUInt32 >>> ((2 : Int32).toUInt32 &&& Int32.toUInt32 31)).toInt32) &&& (858993459 : Int32))) + (((((f - (((f.toUInt32 >>> ((1 : Int32).toUInt32 &&& Int32.toUInt32 31)).toInt32) &&& (1431655765 : Int32))) &&& (858993459 : Int32)) + ((((f - (((f.toUInt32 >>> ((1 : Int32).toUInt32 &&& Int32.toUInt32 31)).toInt32) &&& (1431655765 : Int32))).toUInt32 >>> ((2 : Int32).toUInt32 &&& Int32.toUInt32 31)).toInt32) &&& (858993459 : Int32))).toUInt32 >>> ((4 : Int32).toUInt32 &&& Int32.toUInt32 31)).toInt32)) &&& (252645135 : Int32)) + (((((((f - (((f.toUInt32 >>> ((1 : Int32).toUInt32 &&& Int32.toUInt32 31)).toInt32) &&& (1431655765 : Int32))) &&& (858993459 : Int32)) + ((((f - (((f.toUInt32 >>> ((1 : Int32).toUInt32 &&& Int32.toUInt32 31)).toInt32) &&& (1431655765 : Int32))).toUInt32 >>> ((2 : Int32).toUInt32 &&& Int32.toUInt32 31)).toInt32) &&& (858993459 : Int32))) + (((((f - (((f.toUInt32 >>> ((1 : Int32).toUInt32 &&& Int32.toUInt32 31)).toInt32) &&& (1431655765 : Int32))) &&& (858993459 : Int32)) + ((((f - (((f.toUInt32 >>> ((1 : Int32).toUInt32 &&& Int32.toUInt32 31)).toInt32) &&& (1431655765 : Int32))).toUInt32 >>> ((2 : Int32).toUInt32 &&& Int32.toUInt32 31)).toInt32) &&& (858993459 : Int32))).toUInt32 >>> ((4 : Int32).toUInt32 &&& Int32.toUInt32 31)).toInt32)) &&& (252645135 : Int32)).toUInt32 >>> ((8 : Int32).toUInt32 &&& Int32.toUInt32 31)).toInt32)).toUInt32 >>> ((16 : Int32).toUInt32 &&& Int32.toUInt32 31)).toInt32)))]) (st' := [.int (bcx f)]) (h' := h) 41 rfl E hG
  have ho3 := E_reti rfl E
  exact ⟨hG, ho3⟩
set_option maxRecDepth 100000 in
set_option maxHeartbeats 4000000 in
theorem yt_fk {n d : Nat} {h : rk_S} {o : Option Value × rk_S} {w f k : Int32} (hG : yG h) (E : rk_ex n d rm_X3_firstKeepable 4 [(0, .ref 2), (1, .int w), (2, .int f), (3, .int k)] [] h = some o) :
    ((gi h 2 5).toInt ≤ k.toInt ∧ yG h ∧ o = (some (.int f), h)) ∨
    (¬ ((gi h 2 5).toInt ≤ k.toInt) ∧ ∃ m, m < n + 1 ∧ yG h ∧ rk_ex m d rm_X3_firstKeepable 13 [(0, .ref 2), (1, .int w), (2, .int f), (3, .int k)] [.int f] h = some o) := by
  obtain ⟨m1, hm2, E, hG⟩ := E_go (pc' := 9) (lv' := [(0, .ref 2), (1, .int w), (2, .int f), (3, .int k)]) (st' := [.int (gi h 2 5), .int k]) (h' := h) 3 rfl E hG
  rcases E_if2 (tg := 41) rfl rfl E with ⟨hc, m3, hm4, E⟩ | ⟨hc, m5, hm6, E⟩
  ·
    have c7 : (gi h 2 5).toInt ≤ k.toInt := hc
    clear hc
    obtain ⟨m8, hm9, E, hG⟩ := E_go (pc' := 42) (lv' := [(0, .ref 2), (1, .int w), (2, .int f), (3, .int k)]) (st' := [.int f]) (h' := h) 1 rfl E hG
    have ho10 := E_reti rfl E
    exact Or.inl ⟨c7, hG, ho10⟩
  ·
    have c11 : ¬ ((gi h 2 5).toInt ≤ k.toInt) := hc
    clear hc
    obtain ⟨m12, hm13, E, hG⟩ := E_go (pc' := 13) (lv' := [(0, .ref 2), (1, .int w), (2, .int f), (3, .int k)]) (st' := [.int f]) (h' := h) 1 rfl E hG
    exact Or.inr ⟨c11, _, (by omega), hG, E⟩
set_option maxRecDepth 100000 in
set_option maxHeartbeats 4000000 in
theorem yt_fk1 {n d : Nat} {h : rk_S} {o : Option Value × rk_S} {w f k y : Int32} (hG : yG h) (E : rk_ex n d rm_X3_firstKeepable 16 [(0, .ref 2), (1, .int w), (2, .int f), (3, .int k)] [.int y] h = some o) :
    (w.toInt ≤ y.toInt ∧ yG h ∧ o = (some (.int f), h)) ∨
    (¬ (w.toInt ≤ y.toInt) ∧ ¬ (gi h 15 k.toNatClampNeg).toInt = 0 ∧ ∃ m, m < n ∧ yG h ∧ rk_ex m d rm_X3_firstKeepable 4 [(0, .ref 2), (1, .int w), (2, .int f), (3, .int (k + (1 : Int32)))] [] h = some o) ∨
    (¬ (w.toInt ≤ y.toInt) ∧ (gi h 15 k.toNatClampNeg).toInt = 0 ∧ ∃ m, m < n ∧ yG h ∧ rk_ex m d rm_X3_firstKeepable 4 [(0, .ref 2), (1, .int w), (2, .int (f ||| ((1 : Int32) <<< (k &&& 31)))), (3, .int (k + (1 : Int32)))] [] h = some o) := by
  obtain ⟨m1, hm2, E, hG⟩ := E_go (pc' := 17) (lv' := [(0, .ref 2), (1, .int w), (2, .int f), (3, .int k)]) (st' := [.int w, .int y]) (h' := h) 1 rfl E hG
  rcases E_if2 (tg := 41) rfl rfl E with ⟨hc, m3, hm4, E⟩ | ⟨hc, m5, hm6, E⟩
  ·
    have c7 : w.toInt ≤ y.toInt := hc
    clear hc
    obtain ⟨m8, hm9, E, hG⟩ := E_go (pc' := 42) (lv' := [(0, .ref 2), (1, .int w), (2, .int f), (3, .int k)]) (st' := [.int f]) (h' := h) 1 rfl E hG
    have ho10 := E_reti rfl E
    exact Or.inl ⟨c7, hG, ho10⟩
  ·
    have c11 : ¬ (w.toInt ≤ y.toInt) := hc
    clear hc
    obtain ⟨m12, hm13, E, hG⟩ := E_go (pc' := 26) (lv' := [(0, .ref 2), (1, .int w), (2, .int f), (3, .int k)]) (st' := [.int (gi h 15 k.toNatClampNeg)]) (h' := h) 4 rfl E hG
    rcases E_if1 (tg := 35) rfl rfl E with ⟨hc, m14, hm15, E⟩ | ⟨hc, m16, hm17, E⟩
    ·
      have c18 : ¬ (gi h 15 k.toNatClampNeg).toInt = 0 := hc
      clear hc
      obtain ⟨m19, hm20, E, hG⟩ := E_go (pc' := 4) (lv' := [(3, .int (k + (1 : Int32))), (0, .ref 2), (1, .int w), (2, .int f)]) (st' := []) (h' := h) 2 rfl E hG
      replace E := E_lv [(0, .ref 2), (1, .int w), (2, .int f), (3, .int (k + (1 : Int32)))] rfl (lvs_c rfl rfl (lvs_c rfl rfl (lvs_c rfl rfl (lvs_c rfl rfl lvs_n)))) E
      exact Or.inr (Or.inl ⟨c11, c18, _, (by omega), hG, E⟩)
    ·
      have c22 : (gi h 15 k.toNatClampNeg).toInt = 0 := Decidable.not_not.mp hc
      clear hc
      obtain ⟨m23, hm24, E, hG⟩ := E_go (pc' := 4) (lv' := [(3, .int (k + (1 : Int32))), (2, .int (f ||| ((1 : Int32) <<< (k &&& 31)))), (0, .ref 2), (1, .int w)]) (st' := []) (h' := h) 8 rfl E hG
      replace E := E_lv [(0, .ref 2), (1, .int w), (2, .int (f ||| ((1 : Int32) <<< (k &&& 31)))), (3, .int (k + (1 : Int32)))] rfl (lvs_c rfl rfl (lvs_c rfl rfl (lvs_c rfl rfl (lvs_c rfl rfl lvs_n)))) E
      exact Or.inr (Or.inr ⟨c11, c22, _, (by omega), hG, E⟩)
set_option maxRecDepth 100000 in
set_option maxHeartbeats 4000000 in
theorem yt_fk0 {n d : Nat} {h : rk_S} {o : Option Value × rk_S} {w : Int32} (hG : yG h) (E : rk_ex n d rm_X3_firstKeepable 0 [(0, .ref 2), (1, .int w)] [] h = some o) :
    (∃ m, m < n ∧ yG h ∧ rk_ex m d rm_X3_firstKeepable 4 [(0, .ref 2), (1, .int w), (2, .int (0 : Int32)), (3, .int (0 : Int32))] [] h = some o) := by
  obtain ⟨m1, hm2, E, hG⟩ := E_go (pc' := 4) (lv' := [(3, .int (0 : Int32)), (2, .int (0 : Int32)), (0, .ref 2), (1, .int w)]) (st' := []) (h' := h) 4 rfl E hG
  replace E := E_lv [(0, .ref 2), (1, .int w), (2, .int (0 : Int32)), (3, .int (0 : Int32))] rfl (lvs_c rfl rfl (lvs_c rfl rfl (lvs_c rfl rfl (lvs_c rfl rfl lvs_n)))) E
  exact ⟨_, (by omega), hG, E⟩
set_option maxRecDepth 100000 in
set_option maxHeartbeats 4000000 in
theorem yt_kb {n d : Nat} {h : rk_S} {o : Option Value × rk_S} (hG : yG h) (E : rk_ex n d rm_X3_keepable 0 [(0, .ref 2)] [] h = some o) :
    (∃ m, m < n + 1 ∧ yG h ∧ rk_ex m d rm_X3_keepable 3 [(0, .ref 2)] [.int (10 : Int32), .ref 2] h = some o) := by
  obtain ⟨m1, hm2, E, hG⟩ := E_go (pc' := 3) (lv' := [(0, .ref 2)]) (st' := [.int (10 : Int32), .ref 2]) (h' := h) 2 rfl E hG
  exact ⟨_, (by omega), hG, E⟩
set_option maxRecDepth 100000 in
set_option maxHeartbeats 4000000 in
theorem yt_kb1 {n d : Nat} {h : rk_S} {o : Option Value × rk_S} {y : Int32} (hG : yG h) (E : rk_ex n d rm_X3_keepable 6 [(0, .ref 2)] [.int y] h = some o) :
    (yG h ∧ o = (some (.int y), h)) := by
  have ho1 := E_reti rfl E
  exact ⟨hG, ho1⟩
set_option maxRecDepth 100000 in
set_option maxHeartbeats 4000000 in
theorem yt_kp {n d : Nat} {h : rk_S} {o : Option Value × rk_S} {r z : Int32} (hG : yG h) (E : rk_ex n d rm_X7_keep 0 [(0, .ref 1), (1, .int r), (2, .int z)] [] h = some o) :
    (r.toInt < 0 ∧ yG h ∧ o = (some (.int ((-1) : Int32)), h)) ∨
    (¬ (r.toInt < 0) ∧ (gi h 2 5).toInt ≤ r.toInt ∧ yG h ∧ o = (some (.int ((-1) : Int32)), h)) ∨
    (¬ (r.toInt < 0) ∧ ¬ ((gi h 2 5).toInt ≤ r.toInt) ∧ (gi h 15 r.toNatClampNeg).toInt = 0 ∧ (((gi h 1 8) >>> (r &&& 31)) &&& (1 : Int32)).toInt = 0 ∧ z.toInt = 0 ∧ ∃ m, m < n + 1 ∧ yG (rk_pt h 1 8 (.int ((gi h 1 8) &&& (((1 : Int32) <<< (r &&& 31)) ^^^ ((-1) : Int32))))) ∧ rk_ex m d rm_X7_keep 82 [(3, .int (0 : Int32)), (0, .ref 1), (1, .int r), (2, .int z)] [.int r, .ref 20] (rk_pt h 1 8 (.int ((gi h 1 8) &&& (((1 : Int32) <<< (r &&& 31)) ^^^ ((-1) : Int32))))) = some o) ∨
    (¬ (r.toInt < 0) ∧ ¬ ((gi h 2 5).toInt ≤ r.toInt) ∧ (gi h 15 r.toNatClampNeg).toInt = 0 ∧ (((gi h 1 8) >>> (r &&& 31)) &&& (1 : Int32)).toInt = 0 ∧ ¬ (z.toInt = 0) ∧ yG (rk_pt h 1 8 (.int ((gi h 1 8) ||| ((1 : Int32) <<< (r &&& 31))))) ∧ o = (some (.int (0 : Int32)), rk_pt h 1 8 (.int ((gi h 1 8) ||| ((1 : Int32) <<< (r &&& 31)))))) ∨
    (¬ (r.toInt < 0) ∧ ¬ ((gi h 2 5).toInt ≤ r.toInt) ∧ (gi h 15 r.toNatClampNeg).toInt = 0 ∧ ¬ ((((gi h 1 8) >>> (r &&& 31)) &&& (1 : Int32)).toInt = 0) ∧ z.toInt = 0 ∧ ∃ m, m < n + 1 ∧ yG (rk_pt h 1 8 (.int ((gi h 1 8) &&& (((1 : Int32) <<< (r &&& 31)) ^^^ ((-1) : Int32))))) ∧ rk_ex m d rm_X7_keep 82 [(3, .int (1 : Int32)), (0, .ref 1), (1, .int r), (2, .int z)] [.int r, .ref 20] (rk_pt h 1 8 (.int ((gi h 1 8) &&& (((1 : Int32) <<< (r &&& 31)) ^^^ ((-1) : Int32))))) = some o) ∨
    (¬ (r.toInt < 0) ∧ ¬ ((gi h 2 5).toInt ≤ r.toInt) ∧ (gi h 15 r.toNatClampNeg).toInt = 0 ∧ ¬ ((((gi h 1 8) >>> (r &&& 31)) &&& (1 : Int32)).toInt = 0) ∧ ¬ (z.toInt = 0) ∧ yG (rk_pt h 1 8 (.int ((gi h 1 8) ||| ((1 : Int32) <<< (r &&& 31))))) ∧ o = (some (.int (1 : Int32)), rk_pt h 1 8 (.int ((gi h 1 8) ||| ((1 : Int32) <<< (r &&& 31)))))) ∨
    (¬ (r.toInt < 0) ∧ ¬ ((gi h 2 5).toInt ≤ r.toInt) ∧ ¬ ((gi h 15 r.toNatClampNeg).toInt = 0) ∧ yG h ∧ o = (some (.int ((-5) : Int32)), h)) := by
  obtain ⟨m1, hm2, E, hG⟩ := E_go (pc' := 5) (lv' := [(0, .ref 1), (1, .int r), (2, .int z)]) (st' := [.int r, .ref 2]) (h' := h) 3 rfl E hG
  obtain ⟨m3, d4, o5, hm7, E6, F6⟩ := E_call (ar := ([.ref 2, .int r], [])) rfl rfl rfl rfl rfl rfl E
  replace E6 : rk_ex m3 d4 rm_X3_hasRoutine 0 [(0, .ref 2), (1, .int r)] [] h = some o5 := E6
  obtain ⟨m8, hm9, E6, hG⟩ := E_go (pc' := 1) (lv' := [(0, .ref 2), (1, .int r)]) (st' := [.int r]) (h' := h) 1 rfl E6 hG
  rcases E_if1 (tg := 16) rfl rfl E6 with ⟨hc, m10, hm11, E6⟩ | ⟨hc, m12, hm13, E6⟩
  ·
    have c14 : r.toInt < 0 := hc
    clear hc
    obtain ⟨m15, hm16, E6, hG⟩ := E_go (pc' := 17) (lv' := [(0, .ref 2), (1, .int r)]) (st' := [.int (0 : Int32)]) (h' := h) 1 rfl E6 hG
    have ho17 := E_reti rfl E6
    subst ho17
    have E : rk_ex m3 d rm_X7_keep 8 [(0, .ref 1), (1, .int r), (2, .int z)] [.int (0 : Int32)] h = some o := F6
    rcases E_if1 (tg := 13) rfl rfl E with ⟨hc, m18, hm19, E⟩ | ⟨hc, m20, hm21, E⟩
    · exact absurd (show ¬ (0 : Int) = 0 from hc) (by decide)
    ·
      clear hc
      obtain ⟨m22, hm23, E, hG⟩ := E_go (pc' := 12) (lv' := [(0, .ref 1), (1, .int r), (2, .int z)]) (st' := [.int ((-1) : Int32)]) (h' := h) 1 rfl E hG
      have ho24 := E_reti rfl E
      exact Or.inl ⟨c14, hG, ho24⟩
  ·
    have c25 : ¬ (r.toInt < 0) := hc
    clear hc
    obtain ⟨m26, hm27, E6, hG⟩ := E_go (pc' := 9) (lv' := [(0, .ref 2), (1, .int r)]) (st' := [.int (gi h 2 5), .int r]) (h' := h) 3 rfl E6 hG
    rcases E_if2 (tg := 16) rfl rfl E6 with ⟨hc, m28, hm29, E6⟩ | ⟨hc, m30, hm31, E6⟩
    ·
      have c32 : (gi h 2 5).toInt ≤ r.toInt := hc
      clear hc
      obtain ⟨m33, hm34, E6, hG⟩ := E_go (pc' := 17) (lv' := [(0, .ref 2), (1, .int r)]) (st' := [.int (0 : Int32)]) (h' := h) 1 rfl E6 hG
      have ho35 := E_reti rfl E6
      subst ho35
      have E : rk_ex m3 d rm_X7_keep 8 [(0, .ref 1), (1, .int r), (2, .int z)] [.int (0 : Int32)] h = some o := F6
      rcases E_if1 (tg := 13) rfl rfl E with ⟨hc, m36, hm37, E⟩ | ⟨hc, m38, hm39, E⟩
      · exact absurd (show ¬ (0 : Int) = 0 from hc) (by decide)
      ·
        clear hc
        obtain ⟨m40, hm41, E, hG⟩ := E_go (pc' := 12) (lv' := [(0, .ref 1), (1, .int r), (2, .int z)]) (st' := [.int ((-1) : Int32)]) (h' := h) 1 rfl E hG
        have ho42 := E_reti rfl E
        exact Or.inr (Or.inl ⟨c25, c32, hG, ho42⟩)
    ·
      have c43 : ¬ ((gi h 2 5).toInt ≤ r.toInt) := hc
      clear hc
      obtain ⟨m44, hm45, E6, hG⟩ := E_go (pc' := 17) (lv' := [(0, .ref 2), (1, .int r)]) (st' := [.int (1 : Int32)]) (h' := h) 2 rfl E6 hG
      have ho46 := E_reti rfl E6
      subst ho46
      have E : rk_ex m3 d rm_X7_keep 8 [(0, .ref 1), (1, .int r), (2, .int z)] [.int (1 : Int32)] h = some o := F6
      rcases E_if1 (tg := 13) rfl rfl E with ⟨hc, m47, hm48, E⟩ | ⟨hc, m49, hm50, E⟩
      ·
        clear hc
        obtain ⟨m51, hm52, E, hG⟩ := E_go (pc' := 18) (lv' := [(0, .ref 1), (1, .int r), (2, .int z)]) (st' := [.int r, .ref 2]) (h' := h) 3 rfl E hG
        obtain ⟨m53, d54, o55, hm57, E56, F56⟩ := E_call (ar := ([.ref 2, .int r], [])) rfl rfl rfl rfl rfl rfl E
        replace E56 : rk_ex m53 d54 rm_X3_actingOf 0 [(0, .ref 2), (1, .int r)] [] h = some o55 := E56
        obtain ⟨m58, hm59, E56, hG⟩ := E_go (pc' := 2) (lv' := [(0, .ref 2), (1, .int r)]) (st' := [.int r, .ref 2]) (h' := h) 2 rfl E56 hG
        obtain ⟨m60, d61, o62, hm64, E63, F63⟩ := E_call (ar := ([.ref 2, .int r], [])) rfl rfl rfl rfl rfl rfl E56
        replace E63 : rk_ex m60 d61 rm_X3_hasRoutine 0 [(0, .ref 2), (1, .int r)] [] h = some o62 := E63
        obtain ⟨m65, hm66, E63, hG⟩ := E_go (pc' := 1) (lv' := [(0, .ref 2), (1, .int r)]) (st' := [.int r]) (h' := h) 1 rfl E63 hG
        rcases E_if1 (tg := 16) rfl rfl E63 with ⟨hc, m67, hm68, E63⟩ | ⟨hc, m69, hm70, E63⟩
        · exact absurd (show r.toInt < 0 from hc) (by omega)
        ·
          clear hc
          obtain ⟨m71, hm72, E63, hG⟩ := E_go (pc' := 9) (lv' := [(0, .ref 2), (1, .int r)]) (st' := [.int (gi h 2 5), .int r]) (h' := h) 3 rfl E63 hG
          rcases E_if2 (tg := 16) rfl rfl E63 with ⟨hc, m73, hm74, E63⟩ | ⟨hc, m75, hm76, E63⟩
          · exact absurd hc c43
          ·
            clear hc
            obtain ⟨m77, hm78, E63, hG⟩ := E_go (pc' := 17) (lv' := [(0, .ref 2), (1, .int r)]) (st' := [.int (1 : Int32)]) (h' := h) 2 rfl E63 hG
            have ho79 := E_reti rfl E63
            subst ho79
            have E56 : rk_ex m60 d54 rm_X3_actingOf 5 [(0, .ref 2), (1, .int r)] [.int (1 : Int32)] h = some o55 := F63
            rcases E_if1 (tg := 17) rfl rfl E56 with ⟨hc, m80, hm81, E56⟩ | ⟨hc, m82, hm83, E56⟩
            · exact absurd (show (1 : Int) = 0 from hc) (by decide)
            ·
              clear hc
              obtain ⟨m84, hm85, E56, hG⟩ := E_go (pc' := 18) (lv' := [(0, .ref 2), (1, .int r)]) (st' := [.int (gi h 15 r.toNatClampNeg)]) (h' := h) 5 rfl E56 hG
              have ho86 := E_reti rfl E56
              subst ho86
              have E : rk_ex m53 d rm_X7_keep 21 [(0, .ref 1), (1, .int r), (2, .int z)] [.int (gi h 15 r.toNatClampNeg)] h = some o := F56
              rcases E_if1 (tg := 27) rfl rfl E with ⟨hc, m87, hm88, E⟩ | ⟨hc, m89, hm90, E⟩
              ·
                have c91 : (gi h 15 r.toNatClampNeg).toInt = 0 := hc
                clear hc
                obtain ⟨m92, hm93, E, hG⟩ := E_go (pc' := 32) (lv' := [(0, .ref 1), (1, .int r), (2, .int z)]) (st' := [.int r, .int (gi h 1 8)]) (h' := h) 3 rfl E hG
                obtain ⟨m94, d95, o96, hm98, E97, F97⟩ := E_call (ar := ([.int (gi h 1 8), .int r], [])) rfl rfl rfl rfl rfl rfl E
                replace E97 : rk_ex m94 d95 rm_X7_isSet 0 [(0, .int (gi h 1 8)), (1, .int r)] [] h = some o96 := E97
                obtain ⟨m99, hm100, E97, hG⟩ := E_go (pc' := 5) (lv' := [(0, .int (gi h 1 8)), (1, .int r)]) (st' := [.int (((gi h 1 8) >>> (r &&& 31)) &&& (1 : Int32))]) (h' := h) 5 rfl E97 hG
                rcases E_if1 (tg := 12) rfl rfl E97 with ⟨hc, m101, hm102, E97⟩ | ⟨hc, m103, hm104, E97⟩
                ·
                  have c105 : (((gi h 1 8) >>> (r &&& 31)) &&& (1 : Int32)).toInt = 0 := hc
                  clear hc
                  obtain ⟨m106, hm107, E97, hG⟩ := E_go (pc' := 13) (lv' := [(0, .int (gi h 1 8)), (1, .int r)]) (st' := [.int (0 : Int32)]) (h' := h) 1 rfl E97 hG
                  have ho108 := E_reti rfl E97
                  subst ho108
                  have E : rk_ex m94 d rm_X7_keep 35 [(0, .ref 1), (1, .int r), (2, .int z)] [.int (0 : Int32)] h = some o := F97
                  rcases E_if1 (tg := 42) rfl rfl E with ⟨hc, m109, hm110, E⟩ | ⟨hc, m111, hm112, E⟩
                  ·
                    clear hc
                    obtain ⟨m113, hm114, E, hG⟩ := E_go (pc' := 45) (lv' := [(3, .int (0 : Int32)), (0, .ref 1), (1, .int r), (2, .int z)]) (st' := [.int z]) (h' := h) 3 rfl E hG
                    rcases E_if1 (tg := 63) rfl rfl E with ⟨hc, m115, hm116, E⟩ | ⟨hc, m117, hm118, E⟩
                    ·
                      have c119 : z.toInt = 0 := hc
                      clear hc
                      obtain ⟨m120, hm121, E, hG⟩ := E_go (pc' := 82) (lv' := [(3, .int (0 : Int32)), (0, .ref 1), (1, .int r), (2, .int z)]) (st' := [.int r, .ref 20]) (h' := rk_pt h 1 8 (.int ((gi h 1 8) &&& (((1 : Int32) <<< (r &&& 31)) ^^^ ((-1) : Int32))))) 13 rfl E hG
                      exact Or.inr (Or.inr (Or.inl ⟨c25, c43, c91, c105, c119, _, (by omega), hG, E⟩))
                    ·
                      have c122 : ¬ (z.toInt = 0) := hc
                      clear hc
                      obtain ⟨m123, hm124, E, hG⟩ := E_go (pc' := 86) (lv' := [(3, .int (0 : Int32)), (0, .ref 1), (1, .int r), (2, .int z)]) (st' := [.int (0 : Int32)]) (h' := rk_pt h 1 8 (.int ((gi h 1 8) ||| ((1 : Int32) <<< (r &&& 31))))) 10 rfl E hG
                      have ho125 := E_reti rfl E
                      exact Or.inr (Or.inr (Or.inr (Or.inl ⟨c25, c43, c91, c105, c122, hG, ho125⟩)))
                  · exact absurd (show ¬ ((0 : Int) = 0) from hc) (by decide)
                ·
                  have c126 : ¬ ((((gi h 1 8) >>> (r &&& 31)) &&& (1 : Int32)).toInt = 0) := hc
                  clear hc
                  obtain ⟨m127, hm128, E97, hG⟩ := E_go (pc' := 13) (lv' := [(0, .int (gi h 1 8)), (1, .int r)]) (st' := [.int (1 : Int32)]) (h' := h) 2 rfl E97 hG
                  have ho129 := E_reti rfl E97
                  subst ho129
                  have E : rk_ex m94 d rm_X7_keep 35 [(0, .ref 1), (1, .int r), (2, .int z)] [.int (1 : Int32)] h = some o := F97
                  rcases E_if1 (tg := 42) rfl rfl E with ⟨hc, m130, hm131, E⟩ | ⟨hc, m132, hm133, E⟩
                  · exact absurd (show (1 : Int) = 0 from hc) (by decide)
                  ·
                    clear hc
                    obtain ⟨m134, hm135, E, hG⟩ := E_go (pc' := 45) (lv' := [(3, .int (1 : Int32)), (0, .ref 1), (1, .int r), (2, .int z)]) (st' := [.int z]) (h' := h) 4 rfl E hG
                    rcases E_if1 (tg := 63) rfl rfl E with ⟨hc, m136, hm137, E⟩ | ⟨hc, m138, hm139, E⟩
                    ·
                      have c140 : z.toInt = 0 := hc
                      clear hc
                      obtain ⟨m141, hm142, E, hG⟩ := E_go (pc' := 82) (lv' := [(3, .int (1 : Int32)), (0, .ref 1), (1, .int r), (2, .int z)]) (st' := [.int r, .ref 20]) (h' := rk_pt h 1 8 (.int ((gi h 1 8) &&& (((1 : Int32) <<< (r &&& 31)) ^^^ ((-1) : Int32))))) 13 rfl E hG
                      exact Or.inr (Or.inr (Or.inr (Or.inr (Or.inl ⟨c25, c43, c91, c126, c140, _, (by omega), hG, E⟩))))
                    ·
                      have c143 : ¬ (z.toInt = 0) := hc
                      clear hc
                      obtain ⟨m144, hm145, E, hG⟩ := E_go (pc' := 86) (lv' := [(3, .int (1 : Int32)), (0, .ref 1), (1, .int r), (2, .int z)]) (st' := [.int (1 : Int32)]) (h' := rk_pt h 1 8 (.int ((gi h 1 8) ||| ((1 : Int32) <<< (r &&& 31))))) 10 rfl E hG
                      have ho146 := E_reti rfl E
                      exact Or.inr (Or.inr (Or.inr (Or.inr (Or.inr (Or.inl ⟨c25, c43, c91, c126, c143, hG, ho146⟩)))))
              ·
                have c147 : ¬ ((gi h 15 r.toNatClampNeg).toInt = 0) := hc
                clear hc
                obtain ⟨m148, hm149, E, hG⟩ := E_go (pc' := 26) (lv' := [(0, .ref 1), (1, .int r), (2, .int z)]) (st' := [.int ((-5) : Int32)]) (h' := h) 1 rfl E hG
                have ho150 := E_reti rfl E
                exact Or.inr (Or.inr (Or.inr (Or.inr (Or.inr (Or.inr ⟨c25, c43, c147, hG, ho150⟩)))))
      · exact absurd (show ¬ (¬ (1 : Int) = 0) from hc) (by decide)
set_option maxRecDepth 100000 in
set_option maxHeartbeats 4000000 in
theorem yt_kp1 {n d : Nat} {h : rk_S} {o : Option Value × rk_S} {r z y : Int32} (hG : yG h) (E : rk_ex n d rm_X7_keep 85 [(3, .int y), (0, .ref 1), (1, .int r), (2, .int z)] [] h = some o) :
    (yG h ∧ o = (some (.int y), h)) := by
  obtain ⟨m1, hm2, E, hG⟩ := E_go (pc' := 86) (lv' := [(3, .int y), (0, .ref 1), (1, .int r), (2, .int z)]) (st' := [.int y]) (h' := h) 1 rfl E hG
  have ho3 := E_reti rfl E
  exact ⟨hG, ho3⟩
set_option maxRecDepth 100000 in
set_option maxHeartbeats 4000000 in
theorem yt_mk {n d : Nat} {h : rk_S} {o : Option Value × rk_S} {q z : Int32} (hG : yG h) (E : rk_ex n d rm_X8_keep 0 [(0, .ref 316), (1, .int q), (2, .int z)] [] h = some o) :
    (q.toInt < 0 ∧ yG h ∧ o = (some (.int ((-1) : Int32)), h)) ∨
    (¬ (q.toInt < 0) ∧ ((gi h 316 0) - (1 : Int32)).toInt < q.toInt ∧ yG h ∧ o = (some (.int ((-1) : Int32)), h)) ∨
    (¬ (q.toInt < 0) ∧ ¬ (((gi h 316 0) - (1 : Int32)).toInt < q.toInt) ∧ ∃ m, m < n + 1 ∧ yG h ∧ rk_ex m d rm_X8_keep 12 [(0, .ref 316), (1, .int q), (2, .int z)] [.int q, .ref 316] h = some o) := by
  obtain ⟨m1, hm2, E, hG⟩ := E_go (pc' := 2) (lv' := [(0, .ref 316), (1, .int q), (2, .int z)]) (st' := [.int q, .ref 316]) (h' := h) 2 rfl E hG
  obtain ⟨m3, d4, o5, hm7, E6, F6⟩ := E_call (ar := ([.ref 316, .int q], [])) rfl rfl rfl rfl rfl rfl E
  replace E6 : rk_ex m3 d4 rm_X8_isRoutine 0 [(0, .ref 316), (1, .int q)] [] h = some o5 := E6
  obtain ⟨m8, hm9, E6, hG⟩ := E_go (pc' := 8) (lv' := [(0, .ref 316), (1, .int q)]) (st' := [.int ((gi h 316 0) - (1 : Int32)), .int (0 : Int32), .int q]) (h' := h) 6 rfl E6 hG
  obtain ⟨m10, d11, o12, hm14, E13, F13⟩ := E_call (ar := ([.int q, .int (0 : Int32), .int ((gi h 316 0) - (1 : Int32))], [])) rfl rfl rfl rfl rfl rfl E6
  replace E13 : rk_ex m10 d11 rm_X8_in 0 [(0, .int q), (1, .int (0 : Int32)), (2, .int ((gi h 316 0) - (1 : Int32)))] [] h = some o12 := E13
  obtain ⟨m15, hm16, E13, hG⟩ := E_go (pc' := 2) (lv' := [(0, .int q), (1, .int (0 : Int32)), (2, .int ((gi h 316 0) - (1 : Int32)))]) (st' := [.int (0 : Int32), .int q]) (h' := h) 2 rfl E13 hG
  rcases E_if2 (tg := 14) rfl rfl E13 with ⟨hc, m17, hm18, E13⟩ | ⟨hc, m19, hm20, E13⟩
  ·
    have c21 : q.toInt < 0 := hc
    clear hc
    obtain ⟨m22, hm23, E13, hG⟩ := E_go (pc' := 15) (lv' := [(0, .int q), (1, .int (0 : Int32)), (2, .int ((gi h 316 0) - (1 : Int32)))]) (st' := [.int (0 : Int32)]) (h' := h) 1 rfl E13 hG
    have ho24 := E_reti rfl E13
    subst ho24
    have E6 : rk_ex m10 d4 rm_X8_isRoutine 11 [(0, .ref 316), (1, .int q)] [.int (0 : Int32)] h = some o5 := F13
    have ho25 := E_reti rfl E6
    subst ho25
    have E : rk_ex m3 d rm_X8_keep 5 [(0, .ref 316), (1, .int q), (2, .int z)] [.int (0 : Int32)] h = some o := F6
    rcases E_if1 (tg := 10) rfl rfl E with ⟨hc, m26, hm27, E⟩ | ⟨hc, m28, hm29, E⟩
    · exact absurd (show ¬ (0 : Int) = 0 from hc) (by decide)
    ·
      clear hc
      obtain ⟨m30, hm31, E, hG⟩ := E_go (pc' := 9) (lv' := [(0, .ref 316), (1, .int q), (2, .int z)]) (st' := [.int ((-1) : Int32)]) (h' := h) 1 rfl E hG
      have ho32 := E_reti rfl E
      exact Or.inl ⟨c21, hG, ho32⟩
  ·
    have c33 : ¬ (q.toInt < 0) := hc
    clear hc
    obtain ⟨m34, hm35, E13, hG⟩ := E_go (pc' := 7) (lv' := [(0, .int q), (1, .int (0 : Int32)), (2, .int ((gi h 316 0) - (1 : Int32)))]) (st' := [.int ((gi h 316 0) - (1 : Int32)), .int q]) (h' := h) 2 rfl E13 hG
    rcases E_if2 (tg := 14) rfl rfl E13 with ⟨hc, m36, hm37, E13⟩ | ⟨hc, m38, hm39, E13⟩
    ·
      have c40 : ((gi h 316 0) - (1 : Int32)).toInt < q.toInt := hc
      clear hc
      obtain ⟨m41, hm42, E13, hG⟩ := E_go (pc' := 15) (lv' := [(0, .int q), (1, .int (0 : Int32)), (2, .int ((gi h 316 0) - (1 : Int32)))]) (st' := [.int (0 : Int32)]) (h' := h) 1 rfl E13 hG
      have ho43 := E_reti rfl E13
      subst ho43
      have E6 : rk_ex m10 d4 rm_X8_isRoutine 11 [(0, .ref 316), (1, .int q)] [.int (0 : Int32)] h = some o5 := F13
      have ho44 := E_reti rfl E6
      subst ho44
      have E : rk_ex m3 d rm_X8_keep 5 [(0, .ref 316), (1, .int q), (2, .int z)] [.int (0 : Int32)] h = some o := F6
      rcases E_if1 (tg := 10) rfl rfl E with ⟨hc, m45, hm46, E⟩ | ⟨hc, m47, hm48, E⟩
      · exact absurd (show ¬ (0 : Int) = 0 from hc) (by decide)
      ·
        clear hc
        obtain ⟨m49, hm50, E, hG⟩ := E_go (pc' := 9) (lv' := [(0, .ref 316), (1, .int q), (2, .int z)]) (st' := [.int ((-1) : Int32)]) (h' := h) 1 rfl E hG
        have ho51 := E_reti rfl E
        exact Or.inr (Or.inl ⟨c33, c40, hG, ho51⟩)
    ·
      have c52 : ¬ (((gi h 316 0) - (1 : Int32)).toInt < q.toInt) := hc
      clear hc
      obtain ⟨m53, hm54, E13, hG⟩ := E_go (pc' := 15) (lv' := [(0, .int q), (1, .int (0 : Int32)), (2, .int ((gi h 316 0) - (1 : Int32)))]) (st' := [.int (1 : Int32)]) (h' := h) 2 rfl E13 hG
      have ho55 := E_reti rfl E13
      subst ho55
      have E6 : rk_ex m10 d4 rm_X8_isRoutine 11 [(0, .ref 316), (1, .int q)] [.int (1 : Int32)] h = some o5 := F13
      have ho56 := E_reti rfl E6
      subst ho56
      have E : rk_ex m3 d rm_X8_keep 5 [(0, .ref 316), (1, .int q), (2, .int z)] [.int (1 : Int32)] h = some o := F6
      rcases E_if1 (tg := 10) rfl rfl E with ⟨hc, m57, hm58, E⟩ | ⟨hc, m59, hm60, E⟩
      ·
        clear hc
        obtain ⟨m61, hm62, E, hG⟩ := E_go (pc' := 12) (lv' := [(0, .ref 316), (1, .int q), (2, .int z)]) (st' := [.int q, .ref 316]) (h' := h) 2 rfl E hG
        exact Or.inr (Or.inr ⟨c33, c52, _, (by omega), hG, E⟩)
      · exact absurd (show ¬ (¬ (1 : Int) = 0) from hc) (by decide)
set_option maxRecDepth 100000 in
set_option maxHeartbeats 4000000 in
theorem yt_mk1 {n d : Nat} {h : rk_S} {o : Option Value × rk_S} {q z y : Int32} (hG : yG h) (E : rk_ex n d rm_X8_keep 15 [(0, .ref 316), (1, .int q), (2, .int z)] [.int y] h = some o) :
    (y.toInt = 0 ∧ (gi h 319 q.toNatClampNeg).toInt = 0 ∧ ∃ m, m < n ∧ yG (rk_pt h 319 q.toNatClampNeg (.int (z &&& 1))) ∧ rk_ex m d rm_X8_keep 43 [(3, .int (0 : Int32)), (0, .ref 316), (1, .int q), (2, .int z)] [] (rk_pt h 319 q.toNatClampNeg (.int (z &&& 1))) = some o) ∨
    (y.toInt = 0 ∧ ¬ ((gi h 319 q.toNatClampNeg).toInt = 0) ∧ ∃ m, m < n ∧ yG (rk_pt h 319 q.toNatClampNeg (.int (z &&& 1))) ∧ rk_ex m d rm_X8_keep 43 [(3, .int (1 : Int32)), (0, .ref 316), (1, .int q), (2, .int z)] [] (rk_pt h 319 q.toNatClampNeg (.int (z &&& 1))) = some o) ∨
    (¬ (y.toInt = 0) ∧ yG h ∧ o = (some (.int ((-5) : Int32)), h)) := by
  rcases E_if1 (tg := 21) rfl rfl E with ⟨hc, m1, hm2, E⟩ | ⟨hc, m3, hm4, E⟩
  ·
    have c5 : y.toInt = 0 := hc
    clear hc
    obtain ⟨m6, hm7, E, hG⟩ := E_go (pc' := 27) (lv' := [(0, .ref 316), (1, .int q), (2, .int z)]) (st' := [.int (gi h 319 q.toNatClampNeg)]) (h' := h) 4 rfl E hG
    rcases E_if1 (tg := 34) rfl rfl E with ⟨hc, m8, hm9, E⟩ | ⟨hc, m10, hm11, E⟩
    ·
      have c12 : (gi h 319 q.toNatClampNeg).toInt = 0 := hc
      clear hc
      obtain ⟨m13, hm14, E, hG⟩ := E_go (pc' := 43) (lv' := [(3, .int (0 : Int32)), (0, .ref 316), (1, .int q), (2, .int z)]) (st' := []) (h' := rk_pt h 319 q.toNatClampNeg (.int (z &&& 1))) 7 rfl E hG
      exact Or.inl ⟨c5, c12, _, (by omega), hG, E⟩
    ·
      have c16 : ¬ ((gi h 319 q.toNatClampNeg).toInt = 0) := hc
      clear hc
      obtain ⟨m17, hm18, E, hG⟩ := E_go (pc' := 43) (lv' := [(3, .int (1 : Int32)), (0, .ref 316), (1, .int q), (2, .int z)]) (st' := []) (h' := rk_pt h 319 q.toNatClampNeg (.int (z &&& 1))) 8 rfl E hG
      exact Or.inr (Or.inl ⟨c5, c16, _, (by omega), hG, E⟩)
  ·
    have c20 : ¬ (y.toInt = 0) := hc
    clear hc
    obtain ⟨m21, hm22, E, hG⟩ := E_go (pc' := 20) (lv' := [(0, .ref 316), (1, .int q), (2, .int z)]) (st' := [.int ((-5) : Int32)]) (h' := h) 1 rfl E hG
    have ho23 := E_reti rfl E
    exact Or.inr (Or.inr ⟨c20, hG, ho23⟩)
set_option maxRecDepth 100000 in
set_option maxHeartbeats 4000000 in
theorem yt_mc {n d : Nat} {h : rk_S} {o : Option Value × rk_S} {q c : Int32} (hG : yG h) (E : rk_ex n d rm_X8_code 0 [(0, .ref 316), (1, .int q), (2, .int c)] [] h = some o) :
    (q.toInt < 0 ∧ yG h ∧ o = (some (.int ((-1) : Int32)), h)) ∨
    (¬ (q.toInt < 0) ∧ ((gi h 316 0) - (1 : Int32)).toInt < q.toInt ∧ yG h ∧ o = (some (.int ((-1) : Int32)), h)) ∨
    (¬ (q.toInt < 0) ∧ ¬ (((gi h 316 0) - (1 : Int32)).toInt < q.toInt) ∧ ∃ m, m < n + 1 ∧ yG h ∧ rk_ex m d rm_X8_code 11 [(0, .ref 316), (1, .int q), (2, .int c)] [.int c] h = some o) := by
  obtain ⟨m1, hm2, E, hG⟩ := E_go (pc' := 2) (lv' := [(0, .ref 316), (1, .int q), (2, .int c)]) (st' := [.int q, .ref 316]) (h' := h) 2 rfl E hG
  obtain ⟨m3, d4, o5, hm7, E6, F6⟩ := E_call (ar := ([.ref 316, .int q], [])) rfl rfl rfl rfl rfl rfl E
  replace E6 : rk_ex m3 d4 rm_X8_isRoutine 0 [(0, .ref 316), (1, .int q)] [] h = some o5 := E6
  obtain ⟨m8, hm9, E6, hG⟩ := E_go (pc' := 8) (lv' := [(0, .ref 316), (1, .int q)]) (st' := [.int ((gi h 316 0) - (1 : Int32)), .int (0 : Int32), .int q]) (h' := h) 6 rfl E6 hG
  obtain ⟨m10, d11, o12, hm14, E13, F13⟩ := E_call (ar := ([.int q, .int (0 : Int32), .int ((gi h 316 0) - (1 : Int32))], [])) rfl rfl rfl rfl rfl rfl E6
  replace E13 : rk_ex m10 d11 rm_X8_in 0 [(0, .int q), (1, .int (0 : Int32)), (2, .int ((gi h 316 0) - (1 : Int32)))] [] h = some o12 := E13
  obtain ⟨m15, hm16, E13, hG⟩ := E_go (pc' := 2) (lv' := [(0, .int q), (1, .int (0 : Int32)), (2, .int ((gi h 316 0) - (1 : Int32)))]) (st' := [.int (0 : Int32), .int q]) (h' := h) 2 rfl E13 hG
  rcases E_if2 (tg := 14) rfl rfl E13 with ⟨hc, m17, hm18, E13⟩ | ⟨hc, m19, hm20, E13⟩
  ·
    have c21 : q.toInt < 0 := hc
    clear hc
    obtain ⟨m22, hm23, E13, hG⟩ := E_go (pc' := 15) (lv' := [(0, .int q), (1, .int (0 : Int32)), (2, .int ((gi h 316 0) - (1 : Int32)))]) (st' := [.int (0 : Int32)]) (h' := h) 1 rfl E13 hG
    have ho24 := E_reti rfl E13
    subst ho24
    have E6 : rk_ex m10 d4 rm_X8_isRoutine 11 [(0, .ref 316), (1, .int q)] [.int (0 : Int32)] h = some o5 := F13
    have ho25 := E_reti rfl E6
    subst ho25
    have E : rk_ex m3 d rm_X8_code 5 [(0, .ref 316), (1, .int q), (2, .int c)] [.int (0 : Int32)] h = some o := F6
    rcases E_if1 (tg := 10) rfl rfl E with ⟨hc, m26, hm27, E⟩ | ⟨hc, m28, hm29, E⟩
    · exact absurd (show ¬ (0 : Int) = 0 from hc) (by decide)
    ·
      clear hc
      obtain ⟨m30, hm31, E, hG⟩ := E_go (pc' := 9) (lv' := [(0, .ref 316), (1, .int q), (2, .int c)]) (st' := [.int ((-1) : Int32)]) (h' := h) 1 rfl E hG
      have ho32 := E_reti rfl E
      exact Or.inl ⟨c21, hG, ho32⟩
  ·
    have c33 : ¬ (q.toInt < 0) := hc
    clear hc
    obtain ⟨m34, hm35, E13, hG⟩ := E_go (pc' := 7) (lv' := [(0, .int q), (1, .int (0 : Int32)), (2, .int ((gi h 316 0) - (1 : Int32)))]) (st' := [.int ((gi h 316 0) - (1 : Int32)), .int q]) (h' := h) 2 rfl E13 hG
    rcases E_if2 (tg := 14) rfl rfl E13 with ⟨hc, m36, hm37, E13⟩ | ⟨hc, m38, hm39, E13⟩
    ·
      have c40 : ((gi h 316 0) - (1 : Int32)).toInt < q.toInt := hc
      clear hc
      obtain ⟨m41, hm42, E13, hG⟩ := E_go (pc' := 15) (lv' := [(0, .int q), (1, .int (0 : Int32)), (2, .int ((gi h 316 0) - (1 : Int32)))]) (st' := [.int (0 : Int32)]) (h' := h) 1 rfl E13 hG
      have ho43 := E_reti rfl E13
      subst ho43
      have E6 : rk_ex m10 d4 rm_X8_isRoutine 11 [(0, .ref 316), (1, .int q)] [.int (0 : Int32)] h = some o5 := F13
      have ho44 := E_reti rfl E6
      subst ho44
      have E : rk_ex m3 d rm_X8_code 5 [(0, .ref 316), (1, .int q), (2, .int c)] [.int (0 : Int32)] h = some o := F6
      rcases E_if1 (tg := 10) rfl rfl E with ⟨hc, m45, hm46, E⟩ | ⟨hc, m47, hm48, E⟩
      · exact absurd (show ¬ (0 : Int) = 0 from hc) (by decide)
      ·
        clear hc
        obtain ⟨m49, hm50, E, hG⟩ := E_go (pc' := 9) (lv' := [(0, .ref 316), (1, .int q), (2, .int c)]) (st' := [.int ((-1) : Int32)]) (h' := h) 1 rfl E hG
        have ho51 := E_reti rfl E
        exact Or.inr (Or.inl ⟨c33, c40, hG, ho51⟩)
    ·
      have c52 : ¬ (((gi h 316 0) - (1 : Int32)).toInt < q.toInt) := hc
      clear hc
      obtain ⟨m53, hm54, E13, hG⟩ := E_go (pc' := 15) (lv' := [(0, .int q), (1, .int (0 : Int32)), (2, .int ((gi h 316 0) - (1 : Int32)))]) (st' := [.int (1 : Int32)]) (h' := h) 2 rfl E13 hG
      have ho55 := E_reti rfl E13
      subst ho55
      have E6 : rk_ex m10 d4 rm_X8_isRoutine 11 [(0, .ref 316), (1, .int q)] [.int (1 : Int32)] h = some o5 := F13
      have ho56 := E_reti rfl E6
      subst ho56
      have E : rk_ex m3 d rm_X8_code 5 [(0, .ref 316), (1, .int q), (2, .int c)] [.int (1 : Int32)] h = some o := F6
      rcases E_if1 (tg := 10) rfl rfl E with ⟨hc, m57, hm58, E⟩ | ⟨hc, m59, hm60, E⟩
      ·
        clear hc
        obtain ⟨m61, hm62, E, hG⟩ := E_go (pc' := 11) (lv' := [(0, .ref 316), (1, .int q), (2, .int c)]) (st' := [.int c]) (h' := h) 1 rfl E hG
        exact Or.inr (Or.inr ⟨c33, c52, _, (by omega), hG, E⟩)
      · exact absurd (show ¬ (¬ (1 : Int) = 0) from hc) (by decide)
set_option maxRecDepth 100000 in
set_option maxHeartbeats 4000000 in
theorem yt_mc1 {n d : Nat} {h : rk_S} {o : Option Value × rk_S} {q c x : Int32} (hG : yG h) (E : rk_ex n d rm_X8_code 14 [(0, .ref 316), (1, .int q), (2, .int c)] [.int x] h = some o) :
    (¬ x.toInt = 0 ∧ ¬ (gi h 317 q.toNatClampNeg).toInt = 40 ∧ ∃ m, m < n ∧ yG (rk_pt (rk_pt (rk_pt h 318 ((((40 : Int32) * q) + (gi h 317 q.toNatClampNeg)).toNatClampNeg) (.int c)) 317 q.toNatClampNeg (.int ((gi h 317 q.toNatClampNeg) + (1 : Int32)))) 322 0 (.int (0 : Int32))) ∧ rk_ex m d rm_X8_code 70 [(0, .ref 316), (1, .int q), (2, .int c), (3, .int (0 : Int32))] [] (rk_pt (rk_pt (rk_pt h 318 ((((40 : Int32) * q) + (gi h 317 q.toNatClampNeg)).toNatClampNeg) (.int c)) 317 q.toNatClampNeg (.int ((gi h 317 q.toNatClampNeg) + (1 : Int32)))) 322 0 (.int (0 : Int32))) = some o) ∨
    (¬ x.toInt = 0 ∧ (gi h 317 q.toNatClampNeg).toInt = 40 ∧ yG h ∧ o = (some (.int ((-4) : Int32)), h)) ∨
    (x.toInt = 0 ∧ yG h ∧ o = (some (.int ((-2) : Int32)), h)) := by
  rcases E_if1 (tg := 20) rfl rfl E with ⟨hc, m1, hm2, E⟩ | ⟨hc, m3, hm4, E⟩
  ·
    have c5 : ¬ x.toInt = 0 := hc
    clear hc
    obtain ⟨m6, hm7, E, hG⟩ := E_go (pc' := 28) (lv' := [(0, .ref 316), (1, .int q), (2, .int c)]) (st' := [.int (40 : Int32), .int (gi h 317 q.toNatClampNeg)]) (h' := h) 5 rfl E hG
    rcases E_if2 (tg := 34) rfl rfl E with ⟨hc, m8, hm9, E⟩ | ⟨hc, m10, hm11, E⟩
    ·
      have c12 : ¬ (gi h 317 q.toNatClampNeg).toInt = 40 := hc
      clear hc
      obtain ⟨m13, hm14, E, hG⟩ := E_go (pc' := 70) (lv' := [(3, .int (0 : Int32)), (0, .ref 316), (1, .int q), (2, .int c)]) (st' := []) (h' := rk_pt (rk_pt (rk_pt h 318 ((((40 : Int32) * q) + (gi h 317 q.toNatClampNeg)).toNatClampNeg) (.int c)) 317 q.toNatClampNeg (.int ((gi (rk_pt h 318 ((((40 : Int32) * q) + (gi h 317 q.toNatClampNeg)).toNatClampNeg) (.int c)) 317 q.toNatClampNeg) + (1 : Int32)))) 322 0 (.int (0 : Int32))) 27 rfl E hG
      try simp only [gi_x (a := 318) (a' := 317) (by decide)] at E hG
      replace E := E_lv [(0, .ref 316), (1, .int q), (2, .int c), (3, .int (0 : Int32))] rfl (lvs_c rfl rfl (lvs_c rfl rfl (lvs_c rfl rfl (lvs_c rfl rfl lvs_n)))) E
      exact Or.inl ⟨c5, c12, _, (by omega), hG, E⟩
    ·
      have c16 : (gi h 317 q.toNatClampNeg).toInt = 40 := Decidable.not_not.mp hc
      clear hc
      obtain ⟨m17, hm18, E, hG⟩ := E_go (pc' := 33) (lv' := [(0, .ref 316), (1, .int q), (2, .int c)]) (st' := [.int ((-4) : Int32)]) (h' := h) 1 rfl E hG
      have ho19 := E_reti rfl E
      exact Or.inr (Or.inl ⟨c5, c16, hG, ho19⟩)
  ·
    have c20 : x.toInt = 0 := Decidable.not_not.mp hc
    clear hc
    obtain ⟨m21, hm22, E, hG⟩ := E_go (pc' := 19) (lv' := [(0, .ref 316), (1, .int q), (2, .int c)]) (st' := [.int ((-2) : Int32)]) (h' := h) 1 rfl E hG
    have ho23 := E_reti rfl E
    exact Or.inr (Or.inr ⟨c20, hG, ho23⟩)
set_option maxRecDepth 100000 in
set_option maxHeartbeats 4000000 in
theorem yt_mc2 {n d : Nat} {h : rk_S} {o : Option Value × rk_S} {q c k : Int32} (hG : yG h) (E : rk_ex n d rm_X8_code 70 [(0, .ref 316), (1, .int q), (2, .int c), (3, .int k)] [] h = some o) :
    ((gi h 316 0).toInt ≤ k.toInt ∧ yG h ∧ o = (some (.int (gi h 317 q.toNatClampNeg)), h)) ∨
    (¬ ((gi h 316 0).toInt ≤ k.toInt) ∧ (gi h 319 k.toNatClampNeg).toInt = 0 ∧ ∃ m, m < n ∧ yG (rk_pt h 319 k.toNatClampNeg (.int ((0 : Int32) &&& 1))) ∧ rk_ex m d rm_X8_code 70 [(0, .ref 316), (1, .int q), (2, .int c), (3, .int (k + (1 : Int32)))] [] (rk_pt h 319 k.toNatClampNeg (.int ((0 : Int32) &&& 1))) = some o) ∨
    (¬ ((gi h 316 0).toInt ≤ k.toInt) ∧ ¬ ((gi h 319 k.toNatClampNeg).toInt = 0) ∧ ∃ m, m < n + 1 ∧ yG h ∧ rk_ex m d rm_X8_code 94 [(0, .ref 316), (1, .int q), (2, .int c), (3, .int k)] [.int k, .ref 316, .int k, .ref 319] h = some o) := by
  obtain ⟨m1, hm2, E, hG⟩ := E_go (pc' := 75) (lv' := [(0, .ref 316), (1, .int q), (2, .int c), (3, .int k)]) (st' := [.int (gi h 316 0), .int k]) (h' := h) 3 rfl E hG
  rcases E_if2 (tg := 112) rfl rfl E with ⟨hc, m3, hm4, E⟩ | ⟨hc, m5, hm6, E⟩
  ·
    have c7 : (gi h 316 0).toInt ≤ k.toInt := hc
    clear hc
    obtain ⟨m8, hm9, E, hG⟩ := E_go (pc' := 118) (lv' := [(0, .ref 316), (1, .int q), (2, .int c), (3, .int k)]) (st' := [.int (gi h 317 q.toNatClampNeg)]) (h' := h) 4 rfl E hG
    have ho10 := E_reti rfl E
    exact Or.inl ⟨c7, hG, ho10⟩
  ·
    have c11 : ¬ ((gi h 316 0).toInt ≤ k.toInt) := hc
    clear hc
    obtain ⟨m12, hm13, E, hG⟩ := E_go (pc' := 89) (lv' := [(0, .ref 316), (1, .int q), (2, .int c), (3, .int k)]) (st' := [.int (gi h 319 k.toNatClampNeg), .int k, .ref 319]) (h' := h) 7 rfl E hG
    rcases E_if1 (tg := 104) rfl rfl E with ⟨hc, m14, hm15, E⟩ | ⟨hc, m16, hm17, E⟩
    ·
      have c18 : (gi h 319 k.toNatClampNeg).toInt = 0 := hc
      clear hc
      obtain ⟨m19, hm20, E, hG⟩ := E_go (pc' := 70) (lv' := [(3, .int (k + (1 : Int32))), (0, .ref 316), (1, .int q), (2, .int c)]) (st' := []) (h' := rk_pt h 319 k.toNatClampNeg (.int ((0 : Int32) &&& 1))) 4 rfl E hG
      replace E := E_lv [(0, .ref 316), (1, .int q), (2, .int c), (3, .int (k + (1 : Int32)))] rfl (lvs_c rfl rfl (lvs_c rfl rfl (lvs_c rfl rfl (lvs_c rfl rfl lvs_n)))) E
      exact Or.inr (Or.inl ⟨c11, c18, _, (by omega), hG, E⟩)
    ·
      have c22 : ¬ ((gi h 319 k.toNatClampNeg).toInt = 0) := hc
      clear hc
      obtain ⟨m23, hm24, E, hG⟩ := E_go (pc' := 94) (lv' := [(0, .ref 316), (1, .int q), (2, .int c), (3, .int k)]) (st' := [.int k, .ref 316, .int k, .ref 319]) (h' := h) 2 rfl E hG
      exact Or.inr (Or.inr ⟨c11, c22, _, (by omega), hG, E⟩)
set_option maxRecDepth 100000 in
set_option maxHeartbeats 4000000 in
theorem yt_mc3 {n d : Nat} {h : rk_S} {o : Option Value × rk_S} {q c k y : Int32} (hG : yG h) (E : rk_ex n d rm_X8_code 97 [(0, .ref 316), (1, .int q), (2, .int c), (3, .int k)] [.int y, .int k, .ref 319] h = some o) :
    (¬ y.toInt = 0 ∧ ∃ m, m < n ∧ yG (rk_pt h 319 k.toNatClampNeg (.int ((0 : Int32) &&& 1))) ∧ rk_ex m d rm_X8_code 70 [(0, .ref 316), (1, .int q), (2, .int c), (3, .int (k + (1 : Int32)))] [] (rk_pt h 319 k.toNatClampNeg (.int ((0 : Int32) &&& 1))) = some o) ∨
    (y.toInt = 0 ∧ ∃ m, m < n ∧ yG (rk_pt h 319 k.toNatClampNeg (.int ((1 : Int32) &&& 1))) ∧ rk_ex m d rm_X8_code 70 [(0, .ref 316), (1, .int q), (2, .int c), (3, .int (k + (1 : Int32)))] [] (rk_pt h 319 k.toNatClampNeg (.int ((1 : Int32) &&& 1))) = some o) := by
  rcases E_if1 (tg := 104) rfl rfl E with ⟨hc, m1, hm2, E⟩ | ⟨hc, m3, hm4, E⟩
  ·
    have c5 : ¬ y.toInt = 0 := hc
    clear hc
    obtain ⟨m6, hm7, E, hG⟩ := E_go (pc' := 70) (lv' := [(3, .int (k + (1 : Int32))), (0, .ref 316), (1, .int q), (2, .int c)]) (st' := []) (h' := rk_pt h 319 k.toNatClampNeg (.int ((0 : Int32) &&& 1))) 4 rfl E hG
    replace E := E_lv [(0, .ref 316), (1, .int q), (2, .int c), (3, .int (k + (1 : Int32)))] rfl (lvs_c rfl rfl (lvs_c rfl rfl (lvs_c rfl rfl (lvs_c rfl rfl lvs_n)))) E
    exact Or.inl ⟨c5, _, (by omega), hG, E⟩
  ·
    have c9 : y.toInt = 0 := Decidable.not_not.mp hc
    clear hc
    obtain ⟨m10, hm11, E, hG⟩ := E_go (pc' := 70) (lv' := [(3, .int (k + (1 : Int32))), (0, .ref 316), (1, .int q), (2, .int c)]) (st' := []) (h' := rk_pt h 319 k.toNatClampNeg (.int ((1 : Int32) &&& 1))) 5 rfl E hG
    replace E := E_lv [(0, .ref 316), (1, .int q), (2, .int c), (3, .int (k + (1 : Int32)))] rfl (lvs_c rfl rfl (lvs_c rfl rfl (lvs_c rfl rfl (lvs_c rfl rfl lvs_n)))) E
    exact Or.inr ⟨c9, _, (by omega), hG, E⟩
set_option maxRecDepth 100000 in
set_option maxHeartbeats 4000000 in
theorem yt_mic {n d : Nat} {h : rk_S} {o : Option Value × rk_S} {c : Int32} (hG : yG h) (E : rk_ex n d rm_X8_isCode 0 [(0, .int c)] [] h = some o) : ∃ x, o = (some (.int x), h) := by
  obtain ⟨m1, hm2, E, hG⟩ := E_go (pc' := 4) (lv' := [(0, .int c)]) (st' := [.int (102 : Int32), .int (0 : Int32), .int c]) (h' := h) 3 rfl E hG
  obtain ⟨m3, d4, o5, hm7, E6, F6⟩ := E_call (ar := ([.int c, .int (0 : Int32), .int (102 : Int32)], [])) rfl rfl rfl rfl rfl rfl E
  replace E6 : rk_ex m3 d4 rm_X8_in 0 [(0, .int c), (1, .int (0 : Int32)), (2, .int (102 : Int32))] [] h = some o5 := E6
  obtain ⟨m8, hm9, E6, hG⟩ := E_go (pc' := 2) (lv' := [(0, .int c), (1, .int (0 : Int32)), (2, .int (102 : Int32))]) (st' := [.int (0 : Int32), .int c]) (h' := h) 2 rfl E6 hG
  rcases E_if2 (tg := 14) rfl rfl E6 with ⟨hc, m10, hm11, E6⟩ | ⟨hc, m12, hm13, E6⟩
  ·
    have c14 : c.toInt < 0 := hc
    clear hc
    obtain ⟨m15, hm16, E6, hG⟩ := E_go (pc' := 15) (lv' := [(0, .int c), (1, .int (0 : Int32)), (2, .int (102 : Int32))]) (st' := [.int (0 : Int32)]) (h' := h) 1 rfl E6 hG
    have ho17 := E_reti rfl E6
    subst ho17
    have E : rk_ex m3 d rm_X8_isCode 7 [(0, .int c)] [.int (0 : Int32)] h = some o := F6
    rcases E_if1 (tg := 75) rfl rfl E with ⟨hc, m18, hm19, E⟩ | ⟨hc, m20, hm21, E⟩
    · exact absurd (show ¬ (0 : Int) = 0 from hc) (by decide)
    ·
      clear hc
      obtain ⟨m22, hm23, E, hG⟩ := E_go (pc' := 17) (lv' := [(0, .int c)]) (st' := [.int (215 : Int32), .int (200 : Int32), .int c]) (h' := h) 3 rfl E hG
      obtain ⟨m24, d25, o26, hm28, E27, F27⟩ := E_call (ar := ([.int c, .int (200 : Int32), .int (215 : Int32)], [])) rfl rfl rfl rfl rfl rfl E
      replace E27 : rk_ex m24 d25 rm_X8_in 0 [(0, .int c), (1, .int (200 : Int32)), (2, .int (215 : Int32))] [] h = some o26 := E27
      obtain ⟨m29, hm30, E27, hG⟩ := E_go (pc' := 2) (lv' := [(0, .int c), (1, .int (200 : Int32)), (2, .int (215 : Int32))]) (st' := [.int (200 : Int32), .int c]) (h' := h) 2 rfl E27 hG
      rcases E_if2 (tg := 14) rfl rfl E27 with ⟨hc, m31, hm32, E27⟩ | ⟨hc, m33, hm34, E27⟩
      ·
        clear hc
        obtain ⟨m35, hm36, E27, hG⟩ := E_go (pc' := 15) (lv' := [(0, .int c), (1, .int (200 : Int32)), (2, .int (215 : Int32))]) (st' := [.int (0 : Int32)]) (h' := h) 1 rfl E27 hG
        have ho37 := E_reti rfl E27
        subst ho37
        have E : rk_ex m24 d rm_X8_isCode 20 [(0, .int c)] [.int (0 : Int32)] h = some o := F27
        rcases E_if1 (tg := 75) rfl rfl E with ⟨hc, m38, hm39, E⟩ | ⟨hc, m40, hm41, E⟩
        · exact absurd (show ¬ (0 : Int) = 0 from hc) (by decide)
        ·
          clear hc
          obtain ⟨m42, hm43, E, hG⟩ := E_go (pc' := 30) (lv' := [(0, .int c)]) (st' := [.int (315 : Int32), .int (300 : Int32), .int c]) (h' := h) 3 rfl E hG
          obtain ⟨m44, d45, o46, hm48, E47, F47⟩ := E_call (ar := ([.int c, .int (300 : Int32), .int (315 : Int32)], [])) rfl rfl rfl rfl rfl rfl E
          replace E47 : rk_ex m44 d45 rm_X8_in 0 [(0, .int c), (1, .int (300 : Int32)), (2, .int (315 : Int32))] [] h = some o46 := E47
          obtain ⟨m49, hm50, E47, hG⟩ := E_go (pc' := 2) (lv' := [(0, .int c), (1, .int (300 : Int32)), (2, .int (315 : Int32))]) (st' := [.int (300 : Int32), .int c]) (h' := h) 2 rfl E47 hG
          rcases E_if2 (tg := 14) rfl rfl E47 with ⟨hc, m51, hm52, E47⟩ | ⟨hc, m53, hm54, E47⟩
          ·
            clear hc
            obtain ⟨m55, hm56, E47, hG⟩ := E_go (pc' := 15) (lv' := [(0, .int c), (1, .int (300 : Int32)), (2, .int (315 : Int32))]) (st' := [.int (0 : Int32)]) (h' := h) 1 rfl E47 hG
            have ho57 := E_reti rfl E47
            subst ho57
            have E : rk_ex m44 d rm_X8_isCode 33 [(0, .int c)] [.int (0 : Int32)] h = some o := F47
            rcases E_if1 (tg := 75) rfl rfl E with ⟨hc, m58, hm59, E⟩ | ⟨hc, m60, hm61, E⟩
            · exact absurd (show ¬ (0 : Int) = 0 from hc) (by decide)
            ·
              clear hc
              obtain ⟨m62, hm63, E, hG⟩ := E_go (pc' := 43) (lv' := [(0, .int c)]) (st' := [.int (409 : Int32), .int (400 : Int32), .int c]) (h' := h) 3 rfl E hG
              obtain ⟨m64, d65, o66, hm68, E67, F67⟩ := E_call (ar := ([.int c, .int (400 : Int32), .int (409 : Int32)], [])) rfl rfl rfl rfl rfl rfl E
              replace E67 : rk_ex m64 d65 rm_X8_in 0 [(0, .int c), (1, .int (400 : Int32)), (2, .int (409 : Int32))] [] h = some o66 := E67
              obtain ⟨m69, hm70, E67, hG⟩ := E_go (pc' := 2) (lv' := [(0, .int c), (1, .int (400 : Int32)), (2, .int (409 : Int32))]) (st' := [.int (400 : Int32), .int c]) (h' := h) 2 rfl E67 hG
              rcases E_if2 (tg := 14) rfl rfl E67 with ⟨hc, m71, hm72, E67⟩ | ⟨hc, m73, hm74, E67⟩
              ·
                clear hc
                obtain ⟨m75, hm76, E67, hG⟩ := E_go (pc' := 15) (lv' := [(0, .int c), (1, .int (400 : Int32)), (2, .int (409 : Int32))]) (st' := [.int (0 : Int32)]) (h' := h) 1 rfl E67 hG
                have ho77 := E_reti rfl E67
                subst ho77
                have E : rk_ex m64 d rm_X8_isCode 46 [(0, .int c)] [.int (0 : Int32)] h = some o := F67
                rcases E_if1 (tg := 75) rfl rfl E with ⟨hc, m78, hm79, E⟩ | ⟨hc, m80, hm81, E⟩
                · exact absurd (show ¬ (0 : Int) = 0 from hc) (by decide)
                ·
                  clear hc
                  obtain ⟨m82, hm83, E, hG⟩ := E_go (pc' := 56) (lv' := [(0, .int c)]) (st' := [.int (508 : Int32), .int (500 : Int32), .int c]) (h' := h) 3 rfl E hG
                  obtain ⟨m84, d85, o86, hm88, E87, F87⟩ := E_call (ar := ([.int c, .int (500 : Int32), .int (508 : Int32)], [])) rfl rfl rfl rfl rfl rfl E
                  replace E87 : rk_ex m84 d85 rm_X8_in 0 [(0, .int c), (1, .int (500 : Int32)), (2, .int (508 : Int32))] [] h = some o86 := E87
                  obtain ⟨m89, hm90, E87, hG⟩ := E_go (pc' := 2) (lv' := [(0, .int c), (1, .int (500 : Int32)), (2, .int (508 : Int32))]) (st' := [.int (500 : Int32), .int c]) (h' := h) 2 rfl E87 hG
                  rcases E_if2 (tg := 14) rfl rfl E87 with ⟨hc, m91, hm92, E87⟩ | ⟨hc, m93, hm94, E87⟩
                  ·
                    clear hc
                    obtain ⟨m95, hm96, E87, hG⟩ := E_go (pc' := 15) (lv' := [(0, .int c), (1, .int (500 : Int32)), (2, .int (508 : Int32))]) (st' := [.int (0 : Int32)]) (h' := h) 1 rfl E87 hG
                    have ho97 := E_reti rfl E87
                    subst ho97
                    have E : rk_ex m84 d rm_X8_isCode 59 [(0, .int c)] [.int (0 : Int32)] h = some o := F87
                    rcases E_if1 (tg := 75) rfl rfl E with ⟨hc, m98, hm99, E⟩ | ⟨hc, m100, hm101, E⟩
                    · exact absurd (show ¬ (0 : Int) = 0 from hc) (by decide)
                    ·
                      clear hc
                      obtain ⟨m102, hm103, E, hG⟩ := E_go (pc' := 69) (lv' := [(0, .int c)]) (st' := [.int (620 : Int32), .int (601 : Int32), .int c]) (h' := h) 3 rfl E hG
                      obtain ⟨m104, d105, o106, hm108, E107, F107⟩ := E_call (ar := ([.int c, .int (601 : Int32), .int (620 : Int32)], [])) rfl rfl rfl rfl rfl rfl E
                      replace E107 : rk_ex m104 d105 rm_X8_in 0 [(0, .int c), (1, .int (601 : Int32)), (2, .int (620 : Int32))] [] h = some o106 := E107
                      obtain ⟨m109, hm110, E107, hG⟩ := E_go (pc' := 2) (lv' := [(0, .int c), (1, .int (601 : Int32)), (2, .int (620 : Int32))]) (st' := [.int (601 : Int32), .int c]) (h' := h) 2 rfl E107 hG
                      rcases E_if2 (tg := 14) rfl rfl E107 with ⟨hc, m111, hm112, E107⟩ | ⟨hc, m113, hm114, E107⟩
                      ·
                        clear hc
                        obtain ⟨m115, hm116, E107, hG⟩ := E_go (pc' := 15) (lv' := [(0, .int c), (1, .int (601 : Int32)), (2, .int (620 : Int32))]) (st' := [.int (0 : Int32)]) (h' := h) 1 rfl E107 hG
                        have ho117 := E_reti rfl E107
                        subst ho117
                        have E : rk_ex m104 d rm_X8_isCode 72 [(0, .int c)] [.int (0 : Int32)] h = some o := F107
                        rcases E_if1 (tg := 79) rfl rfl E with ⟨hc, m118, hm119, E⟩ | ⟨hc, m120, hm121, E⟩
                        ·
                          clear hc
                          obtain ⟨m122, hm123, E, hG⟩ := E_go (pc' := 80) (lv' := [(0, .int c)]) (st' := [.int (0 : Int32)]) (h' := h) 1 rfl E hG
                          have ho124 := E_reti rfl E
                          exact ⟨_, ho124⟩
                        · exact absurd (show ¬ ((0 : Int) = 0) from hc) (by decide)
                      · exact absurd (show ¬ (c.toInt < 601) from hc) (by omega)
                  · exact absurd (show ¬ (c.toInt < 500) from hc) (by omega)
              · exact absurd (show ¬ (c.toInt < 400) from hc) (by omega)
          · exact absurd (show ¬ (c.toInt < 300) from hc) (by omega)
      · exact absurd (show ¬ (c.toInt < 200) from hc) (by omega)
  ·
    have c125 : ¬ (c.toInt < 0) := hc
    clear hc
    obtain ⟨m126, hm127, E6, hG⟩ := E_go (pc' := 7) (lv' := [(0, .int c), (1, .int (0 : Int32)), (2, .int (102 : Int32))]) (st' := [.int (102 : Int32), .int c]) (h' := h) 2 rfl E6 hG
    rcases E_if2 (tg := 14) rfl rfl E6 with ⟨hc, m128, hm129, E6⟩ | ⟨hc, m130, hm131, E6⟩
    ·
      have c132 : 102 < c.toInt := hc
      clear hc
      obtain ⟨m133, hm134, E6, hG⟩ := E_go (pc' := 15) (lv' := [(0, .int c), (1, .int (0 : Int32)), (2, .int (102 : Int32))]) (st' := [.int (0 : Int32)]) (h' := h) 1 rfl E6 hG
      have ho135 := E_reti rfl E6
      subst ho135
      have E : rk_ex m3 d rm_X8_isCode 7 [(0, .int c)] [.int (0 : Int32)] h = some o := F6
      rcases E_if1 (tg := 75) rfl rfl E with ⟨hc, m136, hm137, E⟩ | ⟨hc, m138, hm139, E⟩
      · exact absurd (show ¬ (0 : Int) = 0 from hc) (by decide)
      ·
        clear hc
        obtain ⟨m140, hm141, E, hG⟩ := E_go (pc' := 17) (lv' := [(0, .int c)]) (st' := [.int (215 : Int32), .int (200 : Int32), .int c]) (h' := h) 3 rfl E hG
        obtain ⟨m142, d143, o144, hm146, E145, F145⟩ := E_call (ar := ([.int c, .int (200 : Int32), .int (215 : Int32)], [])) rfl rfl rfl rfl rfl rfl E
        replace E145 : rk_ex m142 d143 rm_X8_in 0 [(0, .int c), (1, .int (200 : Int32)), (2, .int (215 : Int32))] [] h = some o144 := E145
        obtain ⟨m147, hm148, E145, hG⟩ := E_go (pc' := 2) (lv' := [(0, .int c), (1, .int (200 : Int32)), (2, .int (215 : Int32))]) (st' := [.int (200 : Int32), .int c]) (h' := h) 2 rfl E145 hG
        rcases E_if2 (tg := 14) rfl rfl E145 with ⟨hc, m149, hm150, E145⟩ | ⟨hc, m151, hm152, E145⟩
        ·
          have c153 : c.toInt < 200 := hc
          clear hc
          obtain ⟨m154, hm155, E145, hG⟩ := E_go (pc' := 15) (lv' := [(0, .int c), (1, .int (200 : Int32)), (2, .int (215 : Int32))]) (st' := [.int (0 : Int32)]) (h' := h) 1 rfl E145 hG
          have ho156 := E_reti rfl E145
          subst ho156
          have E : rk_ex m142 d rm_X8_isCode 20 [(0, .int c)] [.int (0 : Int32)] h = some o := F145
          rcases E_if1 (tg := 75) rfl rfl E with ⟨hc, m157, hm158, E⟩ | ⟨hc, m159, hm160, E⟩
          · exact absurd (show ¬ (0 : Int) = 0 from hc) (by decide)
          ·
            clear hc
            obtain ⟨m161, hm162, E, hG⟩ := E_go (pc' := 30) (lv' := [(0, .int c)]) (st' := [.int (315 : Int32), .int (300 : Int32), .int c]) (h' := h) 3 rfl E hG
            obtain ⟨m163, d164, o165, hm167, E166, F166⟩ := E_call (ar := ([.int c, .int (300 : Int32), .int (315 : Int32)], [])) rfl rfl rfl rfl rfl rfl E
            replace E166 : rk_ex m163 d164 rm_X8_in 0 [(0, .int c), (1, .int (300 : Int32)), (2, .int (315 : Int32))] [] h = some o165 := E166
            obtain ⟨m168, hm169, E166, hG⟩ := E_go (pc' := 2) (lv' := [(0, .int c), (1, .int (300 : Int32)), (2, .int (315 : Int32))]) (st' := [.int (300 : Int32), .int c]) (h' := h) 2 rfl E166 hG
            rcases E_if2 (tg := 14) rfl rfl E166 with ⟨hc, m170, hm171, E166⟩ | ⟨hc, m172, hm173, E166⟩
            ·
              clear hc
              obtain ⟨m174, hm175, E166, hG⟩ := E_go (pc' := 15) (lv' := [(0, .int c), (1, .int (300 : Int32)), (2, .int (315 : Int32))]) (st' := [.int (0 : Int32)]) (h' := h) 1 rfl E166 hG
              have ho176 := E_reti rfl E166
              subst ho176
              have E : rk_ex m163 d rm_X8_isCode 33 [(0, .int c)] [.int (0 : Int32)] h = some o := F166
              rcases E_if1 (tg := 75) rfl rfl E with ⟨hc, m177, hm178, E⟩ | ⟨hc, m179, hm180, E⟩
              · exact absurd (show ¬ (0 : Int) = 0 from hc) (by decide)
              ·
                clear hc
                obtain ⟨m181, hm182, E, hG⟩ := E_go (pc' := 43) (lv' := [(0, .int c)]) (st' := [.int (409 : Int32), .int (400 : Int32), .int c]) (h' := h) 3 rfl E hG
                obtain ⟨m183, d184, o185, hm187, E186, F186⟩ := E_call (ar := ([.int c, .int (400 : Int32), .int (409 : Int32)], [])) rfl rfl rfl rfl rfl rfl E
                replace E186 : rk_ex m183 d184 rm_X8_in 0 [(0, .int c), (1, .int (400 : Int32)), (2, .int (409 : Int32))] [] h = some o185 := E186
                obtain ⟨m188, hm189, E186, hG⟩ := E_go (pc' := 2) (lv' := [(0, .int c), (1, .int (400 : Int32)), (2, .int (409 : Int32))]) (st' := [.int (400 : Int32), .int c]) (h' := h) 2 rfl E186 hG
                rcases E_if2 (tg := 14) rfl rfl E186 with ⟨hc, m190, hm191, E186⟩ | ⟨hc, m192, hm193, E186⟩
                ·
                  clear hc
                  obtain ⟨m194, hm195, E186, hG⟩ := E_go (pc' := 15) (lv' := [(0, .int c), (1, .int (400 : Int32)), (2, .int (409 : Int32))]) (st' := [.int (0 : Int32)]) (h' := h) 1 rfl E186 hG
                  have ho196 := E_reti rfl E186
                  subst ho196
                  have E : rk_ex m183 d rm_X8_isCode 46 [(0, .int c)] [.int (0 : Int32)] h = some o := F186
                  rcases E_if1 (tg := 75) rfl rfl E with ⟨hc, m197, hm198, E⟩ | ⟨hc, m199, hm200, E⟩
                  · exact absurd (show ¬ (0 : Int) = 0 from hc) (by decide)
                  ·
                    clear hc
                    obtain ⟨m201, hm202, E, hG⟩ := E_go (pc' := 56) (lv' := [(0, .int c)]) (st' := [.int (508 : Int32), .int (500 : Int32), .int c]) (h' := h) 3 rfl E hG
                    obtain ⟨m203, d204, o205, hm207, E206, F206⟩ := E_call (ar := ([.int c, .int (500 : Int32), .int (508 : Int32)], [])) rfl rfl rfl rfl rfl rfl E
                    replace E206 : rk_ex m203 d204 rm_X8_in 0 [(0, .int c), (1, .int (500 : Int32)), (2, .int (508 : Int32))] [] h = some o205 := E206
                    obtain ⟨m208, hm209, E206, hG⟩ := E_go (pc' := 2) (lv' := [(0, .int c), (1, .int (500 : Int32)), (2, .int (508 : Int32))]) (st' := [.int (500 : Int32), .int c]) (h' := h) 2 rfl E206 hG
                    rcases E_if2 (tg := 14) rfl rfl E206 with ⟨hc, m210, hm211, E206⟩ | ⟨hc, m212, hm213, E206⟩
                    ·
                      clear hc
                      obtain ⟨m214, hm215, E206, hG⟩ := E_go (pc' := 15) (lv' := [(0, .int c), (1, .int (500 : Int32)), (2, .int (508 : Int32))]) (st' := [.int (0 : Int32)]) (h' := h) 1 rfl E206 hG
                      have ho216 := E_reti rfl E206
                      subst ho216
                      have E : rk_ex m203 d rm_X8_isCode 59 [(0, .int c)] [.int (0 : Int32)] h = some o := F206
                      rcases E_if1 (tg := 75) rfl rfl E with ⟨hc, m217, hm218, E⟩ | ⟨hc, m219, hm220, E⟩
                      · exact absurd (show ¬ (0 : Int) = 0 from hc) (by decide)
                      ·
                        clear hc
                        obtain ⟨m221, hm222, E, hG⟩ := E_go (pc' := 69) (lv' := [(0, .int c)]) (st' := [.int (620 : Int32), .int (601 : Int32), .int c]) (h' := h) 3 rfl E hG
                        obtain ⟨m223, d224, o225, hm227, E226, F226⟩ := E_call (ar := ([.int c, .int (601 : Int32), .int (620 : Int32)], [])) rfl rfl rfl rfl rfl rfl E
                        replace E226 : rk_ex m223 d224 rm_X8_in 0 [(0, .int c), (1, .int (601 : Int32)), (2, .int (620 : Int32))] [] h = some o225 := E226
                        obtain ⟨m228, hm229, E226, hG⟩ := E_go (pc' := 2) (lv' := [(0, .int c), (1, .int (601 : Int32)), (2, .int (620 : Int32))]) (st' := [.int (601 : Int32), .int c]) (h' := h) 2 rfl E226 hG
                        rcases E_if2 (tg := 14) rfl rfl E226 with ⟨hc, m230, hm231, E226⟩ | ⟨hc, m232, hm233, E226⟩
                        ·
                          clear hc
                          obtain ⟨m234, hm235, E226, hG⟩ := E_go (pc' := 15) (lv' := [(0, .int c), (1, .int (601 : Int32)), (2, .int (620 : Int32))]) (st' := [.int (0 : Int32)]) (h' := h) 1 rfl E226 hG
                          have ho236 := E_reti rfl E226
                          subst ho236
                          have E : rk_ex m223 d rm_X8_isCode 72 [(0, .int c)] [.int (0 : Int32)] h = some o := F226
                          rcases E_if1 (tg := 79) rfl rfl E with ⟨hc, m237, hm238, E⟩ | ⟨hc, m239, hm240, E⟩
                          ·
                            clear hc
                            obtain ⟨m241, hm242, E, hG⟩ := E_go (pc' := 80) (lv' := [(0, .int c)]) (st' := [.int (0 : Int32)]) (h' := h) 1 rfl E hG
                            have ho243 := E_reti rfl E
                            exact ⟨_, ho243⟩
                          · exact absurd (show ¬ ((0 : Int) = 0) from hc) (by decide)
                        · exact absurd (show ¬ (c.toInt < 601) from hc) (by omega)
                    · exact absurd (show ¬ (c.toInt < 500) from hc) (by omega)
                · exact absurd (show ¬ (c.toInt < 400) from hc) (by omega)
            · exact absurd (show ¬ (c.toInt < 300) from hc) (by omega)
        ·
          have c244 : ¬ (c.toInt < 200) := hc
          clear hc
          obtain ⟨m245, hm246, E145, hG⟩ := E_go (pc' := 7) (lv' := [(0, .int c), (1, .int (200 : Int32)), (2, .int (215 : Int32))]) (st' := [.int (215 : Int32), .int c]) (h' := h) 2 rfl E145 hG
          rcases E_if2 (tg := 14) rfl rfl E145 with ⟨hc, m247, hm248, E145⟩ | ⟨hc, m249, hm250, E145⟩
          ·
            have c251 : 215 < c.toInt := hc
            clear hc
            obtain ⟨m252, hm253, E145, hG⟩ := E_go (pc' := 15) (lv' := [(0, .int c), (1, .int (200 : Int32)), (2, .int (215 : Int32))]) (st' := [.int (0 : Int32)]) (h' := h) 1 rfl E145 hG
            have ho254 := E_reti rfl E145
            subst ho254
            have E : rk_ex m142 d rm_X8_isCode 20 [(0, .int c)] [.int (0 : Int32)] h = some o := F145
            rcases E_if1 (tg := 75) rfl rfl E with ⟨hc, m255, hm256, E⟩ | ⟨hc, m257, hm258, E⟩
            · exact absurd (show ¬ (0 : Int) = 0 from hc) (by decide)
            ·
              clear hc
              obtain ⟨m259, hm260, E, hG⟩ := E_go (pc' := 30) (lv' := [(0, .int c)]) (st' := [.int (315 : Int32), .int (300 : Int32), .int c]) (h' := h) 3 rfl E hG
              obtain ⟨m261, d262, o263, hm265, E264, F264⟩ := E_call (ar := ([.int c, .int (300 : Int32), .int (315 : Int32)], [])) rfl rfl rfl rfl rfl rfl E
              replace E264 : rk_ex m261 d262 rm_X8_in 0 [(0, .int c), (1, .int (300 : Int32)), (2, .int (315 : Int32))] [] h = some o263 := E264
              obtain ⟨m266, hm267, E264, hG⟩ := E_go (pc' := 2) (lv' := [(0, .int c), (1, .int (300 : Int32)), (2, .int (315 : Int32))]) (st' := [.int (300 : Int32), .int c]) (h' := h) 2 rfl E264 hG
              rcases E_if2 (tg := 14) rfl rfl E264 with ⟨hc, m268, hm269, E264⟩ | ⟨hc, m270, hm271, E264⟩
              ·
                have c272 : c.toInt < 300 := hc
                clear hc
                obtain ⟨m273, hm274, E264, hG⟩ := E_go (pc' := 15) (lv' := [(0, .int c), (1, .int (300 : Int32)), (2, .int (315 : Int32))]) (st' := [.int (0 : Int32)]) (h' := h) 1 rfl E264 hG
                have ho275 := E_reti rfl E264
                subst ho275
                have E : rk_ex m261 d rm_X8_isCode 33 [(0, .int c)] [.int (0 : Int32)] h = some o := F264
                rcases E_if1 (tg := 75) rfl rfl E with ⟨hc, m276, hm277, E⟩ | ⟨hc, m278, hm279, E⟩
                · exact absurd (show ¬ (0 : Int) = 0 from hc) (by decide)
                ·
                  clear hc
                  obtain ⟨m280, hm281, E, hG⟩ := E_go (pc' := 43) (lv' := [(0, .int c)]) (st' := [.int (409 : Int32), .int (400 : Int32), .int c]) (h' := h) 3 rfl E hG
                  obtain ⟨m282, d283, o284, hm286, E285, F285⟩ := E_call (ar := ([.int c, .int (400 : Int32), .int (409 : Int32)], [])) rfl rfl rfl rfl rfl rfl E
                  replace E285 : rk_ex m282 d283 rm_X8_in 0 [(0, .int c), (1, .int (400 : Int32)), (2, .int (409 : Int32))] [] h = some o284 := E285
                  obtain ⟨m287, hm288, E285, hG⟩ := E_go (pc' := 2) (lv' := [(0, .int c), (1, .int (400 : Int32)), (2, .int (409 : Int32))]) (st' := [.int (400 : Int32), .int c]) (h' := h) 2 rfl E285 hG
                  rcases E_if2 (tg := 14) rfl rfl E285 with ⟨hc, m289, hm290, E285⟩ | ⟨hc, m291, hm292, E285⟩
                  ·
                    clear hc
                    obtain ⟨m293, hm294, E285, hG⟩ := E_go (pc' := 15) (lv' := [(0, .int c), (1, .int (400 : Int32)), (2, .int (409 : Int32))]) (st' := [.int (0 : Int32)]) (h' := h) 1 rfl E285 hG
                    have ho295 := E_reti rfl E285
                    subst ho295
                    have E : rk_ex m282 d rm_X8_isCode 46 [(0, .int c)] [.int (0 : Int32)] h = some o := F285
                    rcases E_if1 (tg := 75) rfl rfl E with ⟨hc, m296, hm297, E⟩ | ⟨hc, m298, hm299, E⟩
                    · exact absurd (show ¬ (0 : Int) = 0 from hc) (by decide)
                    ·
                      clear hc
                      obtain ⟨m300, hm301, E, hG⟩ := E_go (pc' := 56) (lv' := [(0, .int c)]) (st' := [.int (508 : Int32), .int (500 : Int32), .int c]) (h' := h) 3 rfl E hG
                      obtain ⟨m302, d303, o304, hm306, E305, F305⟩ := E_call (ar := ([.int c, .int (500 : Int32), .int (508 : Int32)], [])) rfl rfl rfl rfl rfl rfl E
                      replace E305 : rk_ex m302 d303 rm_X8_in 0 [(0, .int c), (1, .int (500 : Int32)), (2, .int (508 : Int32))] [] h = some o304 := E305
                      obtain ⟨m307, hm308, E305, hG⟩ := E_go (pc' := 2) (lv' := [(0, .int c), (1, .int (500 : Int32)), (2, .int (508 : Int32))]) (st' := [.int (500 : Int32), .int c]) (h' := h) 2 rfl E305 hG
                      rcases E_if2 (tg := 14) rfl rfl E305 with ⟨hc, m309, hm310, E305⟩ | ⟨hc, m311, hm312, E305⟩
                      ·
                        clear hc
                        obtain ⟨m313, hm314, E305, hG⟩ := E_go (pc' := 15) (lv' := [(0, .int c), (1, .int (500 : Int32)), (2, .int (508 : Int32))]) (st' := [.int (0 : Int32)]) (h' := h) 1 rfl E305 hG
                        have ho315 := E_reti rfl E305
                        subst ho315
                        have E : rk_ex m302 d rm_X8_isCode 59 [(0, .int c)] [.int (0 : Int32)] h = some o := F305
                        rcases E_if1 (tg := 75) rfl rfl E with ⟨hc, m316, hm317, E⟩ | ⟨hc, m318, hm319, E⟩
                        · exact absurd (show ¬ (0 : Int) = 0 from hc) (by decide)
                        ·
                          clear hc
                          obtain ⟨m320, hm321, E, hG⟩ := E_go (pc' := 69) (lv' := [(0, .int c)]) (st' := [.int (620 : Int32), .int (601 : Int32), .int c]) (h' := h) 3 rfl E hG
                          obtain ⟨m322, d323, o324, hm326, E325, F325⟩ := E_call (ar := ([.int c, .int (601 : Int32), .int (620 : Int32)], [])) rfl rfl rfl rfl rfl rfl E
                          replace E325 : rk_ex m322 d323 rm_X8_in 0 [(0, .int c), (1, .int (601 : Int32)), (2, .int (620 : Int32))] [] h = some o324 := E325
                          obtain ⟨m327, hm328, E325, hG⟩ := E_go (pc' := 2) (lv' := [(0, .int c), (1, .int (601 : Int32)), (2, .int (620 : Int32))]) (st' := [.int (601 : Int32), .int c]) (h' := h) 2 rfl E325 hG
                          rcases E_if2 (tg := 14) rfl rfl E325 with ⟨hc, m329, hm330, E325⟩ | ⟨hc, m331, hm332, E325⟩
                          ·
                            clear hc
                            obtain ⟨m333, hm334, E325, hG⟩ := E_go (pc' := 15) (lv' := [(0, .int c), (1, .int (601 : Int32)), (2, .int (620 : Int32))]) (st' := [.int (0 : Int32)]) (h' := h) 1 rfl E325 hG
                            have ho335 := E_reti rfl E325
                            subst ho335
                            have E : rk_ex m322 d rm_X8_isCode 72 [(0, .int c)] [.int (0 : Int32)] h = some o := F325
                            rcases E_if1 (tg := 79) rfl rfl E with ⟨hc, m336, hm337, E⟩ | ⟨hc, m338, hm339, E⟩
                            ·
                              clear hc
                              obtain ⟨m340, hm341, E, hG⟩ := E_go (pc' := 80) (lv' := [(0, .int c)]) (st' := [.int (0 : Int32)]) (h' := h) 1 rfl E hG
                              have ho342 := E_reti rfl E
                              exact ⟨_, ho342⟩
                            · exact absurd (show ¬ ((0 : Int) = 0) from hc) (by decide)
                          · exact absurd (show ¬ (c.toInt < 601) from hc) (by omega)
                      · exact absurd (show ¬ (c.toInt < 500) from hc) (by omega)
                  · exact absurd (show ¬ (c.toInt < 400) from hc) (by omega)
              ·
                have c343 : ¬ (c.toInt < 300) := hc
                clear hc
                obtain ⟨m344, hm345, E264, hG⟩ := E_go (pc' := 7) (lv' := [(0, .int c), (1, .int (300 : Int32)), (2, .int (315 : Int32))]) (st' := [.int (315 : Int32), .int c]) (h' := h) 2 rfl E264 hG
                rcases E_if2 (tg := 14) rfl rfl E264 with ⟨hc, m346, hm347, E264⟩ | ⟨hc, m348, hm349, E264⟩
                ·
                  have c350 : 315 < c.toInt := hc
                  clear hc
                  obtain ⟨m351, hm352, E264, hG⟩ := E_go (pc' := 15) (lv' := [(0, .int c), (1, .int (300 : Int32)), (2, .int (315 : Int32))]) (st' := [.int (0 : Int32)]) (h' := h) 1 rfl E264 hG
                  have ho353 := E_reti rfl E264
                  subst ho353
                  have E : rk_ex m261 d rm_X8_isCode 33 [(0, .int c)] [.int (0 : Int32)] h = some o := F264
                  rcases E_if1 (tg := 75) rfl rfl E with ⟨hc, m354, hm355, E⟩ | ⟨hc, m356, hm357, E⟩
                  · exact absurd (show ¬ (0 : Int) = 0 from hc) (by decide)
                  ·
                    clear hc
                    obtain ⟨m358, hm359, E, hG⟩ := E_go (pc' := 43) (lv' := [(0, .int c)]) (st' := [.int (409 : Int32), .int (400 : Int32), .int c]) (h' := h) 3 rfl E hG
                    obtain ⟨m360, d361, o362, hm364, E363, F363⟩ := E_call (ar := ([.int c, .int (400 : Int32), .int (409 : Int32)], [])) rfl rfl rfl rfl rfl rfl E
                    replace E363 : rk_ex m360 d361 rm_X8_in 0 [(0, .int c), (1, .int (400 : Int32)), (2, .int (409 : Int32))] [] h = some o362 := E363
                    obtain ⟨m365, hm366, E363, hG⟩ := E_go (pc' := 2) (lv' := [(0, .int c), (1, .int (400 : Int32)), (2, .int (409 : Int32))]) (st' := [.int (400 : Int32), .int c]) (h' := h) 2 rfl E363 hG
                    rcases E_if2 (tg := 14) rfl rfl E363 with ⟨hc, m367, hm368, E363⟩ | ⟨hc, m369, hm370, E363⟩
                    ·
                      have c371 : c.toInt < 400 := hc
                      clear hc
                      obtain ⟨m372, hm373, E363, hG⟩ := E_go (pc' := 15) (lv' := [(0, .int c), (1, .int (400 : Int32)), (2, .int (409 : Int32))]) (st' := [.int (0 : Int32)]) (h' := h) 1 rfl E363 hG
                      have ho374 := E_reti rfl E363
                      subst ho374
                      have E : rk_ex m360 d rm_X8_isCode 46 [(0, .int c)] [.int (0 : Int32)] h = some o := F363
                      rcases E_if1 (tg := 75) rfl rfl E with ⟨hc, m375, hm376, E⟩ | ⟨hc, m377, hm378, E⟩
                      · exact absurd (show ¬ (0 : Int) = 0 from hc) (by decide)
                      ·
                        clear hc
                        obtain ⟨m379, hm380, E, hG⟩ := E_go (pc' := 56) (lv' := [(0, .int c)]) (st' := [.int (508 : Int32), .int (500 : Int32), .int c]) (h' := h) 3 rfl E hG
                        obtain ⟨m381, d382, o383, hm385, E384, F384⟩ := E_call (ar := ([.int c, .int (500 : Int32), .int (508 : Int32)], [])) rfl rfl rfl rfl rfl rfl E
                        replace E384 : rk_ex m381 d382 rm_X8_in 0 [(0, .int c), (1, .int (500 : Int32)), (2, .int (508 : Int32))] [] h = some o383 := E384
                        obtain ⟨m386, hm387, E384, hG⟩ := E_go (pc' := 2) (lv' := [(0, .int c), (1, .int (500 : Int32)), (2, .int (508 : Int32))]) (st' := [.int (500 : Int32), .int c]) (h' := h) 2 rfl E384 hG
                        rcases E_if2 (tg := 14) rfl rfl E384 with ⟨hc, m388, hm389, E384⟩ | ⟨hc, m390, hm391, E384⟩
                        ·
                          clear hc
                          obtain ⟨m392, hm393, E384, hG⟩ := E_go (pc' := 15) (lv' := [(0, .int c), (1, .int (500 : Int32)), (2, .int (508 : Int32))]) (st' := [.int (0 : Int32)]) (h' := h) 1 rfl E384 hG
                          have ho394 := E_reti rfl E384
                          subst ho394
                          have E : rk_ex m381 d rm_X8_isCode 59 [(0, .int c)] [.int (0 : Int32)] h = some o := F384
                          rcases E_if1 (tg := 75) rfl rfl E with ⟨hc, m395, hm396, E⟩ | ⟨hc, m397, hm398, E⟩
                          · exact absurd (show ¬ (0 : Int) = 0 from hc) (by decide)
                          ·
                            clear hc
                            obtain ⟨m399, hm400, E, hG⟩ := E_go (pc' := 69) (lv' := [(0, .int c)]) (st' := [.int (620 : Int32), .int (601 : Int32), .int c]) (h' := h) 3 rfl E hG
                            obtain ⟨m401, d402, o403, hm405, E404, F404⟩ := E_call (ar := ([.int c, .int (601 : Int32), .int (620 : Int32)], [])) rfl rfl rfl rfl rfl rfl E
                            replace E404 : rk_ex m401 d402 rm_X8_in 0 [(0, .int c), (1, .int (601 : Int32)), (2, .int (620 : Int32))] [] h = some o403 := E404
                            obtain ⟨m406, hm407, E404, hG⟩ := E_go (pc' := 2) (lv' := [(0, .int c), (1, .int (601 : Int32)), (2, .int (620 : Int32))]) (st' := [.int (601 : Int32), .int c]) (h' := h) 2 rfl E404 hG
                            rcases E_if2 (tg := 14) rfl rfl E404 with ⟨hc, m408, hm409, E404⟩ | ⟨hc, m410, hm411, E404⟩
                            ·
                              clear hc
                              obtain ⟨m412, hm413, E404, hG⟩ := E_go (pc' := 15) (lv' := [(0, .int c), (1, .int (601 : Int32)), (2, .int (620 : Int32))]) (st' := [.int (0 : Int32)]) (h' := h) 1 rfl E404 hG
                              have ho414 := E_reti rfl E404
                              subst ho414
                              have E : rk_ex m401 d rm_X8_isCode 72 [(0, .int c)] [.int (0 : Int32)] h = some o := F404
                              rcases E_if1 (tg := 79) rfl rfl E with ⟨hc, m415, hm416, E⟩ | ⟨hc, m417, hm418, E⟩
                              ·
                                clear hc
                                obtain ⟨m419, hm420, E, hG⟩ := E_go (pc' := 80) (lv' := [(0, .int c)]) (st' := [.int (0 : Int32)]) (h' := h) 1 rfl E hG
                                have ho421 := E_reti rfl E
                                exact ⟨_, ho421⟩
                              · exact absurd (show ¬ ((0 : Int) = 0) from hc) (by decide)
                            · exact absurd (show ¬ (c.toInt < 601) from hc) (by omega)
                        · exact absurd (show ¬ (c.toInt < 500) from hc) (by omega)
                    ·
                      have c422 : ¬ (c.toInt < 400) := hc
                      clear hc
                      obtain ⟨m423, hm424, E363, hG⟩ := E_go (pc' := 7) (lv' := [(0, .int c), (1, .int (400 : Int32)), (2, .int (409 : Int32))]) (st' := [.int (409 : Int32), .int c]) (h' := h) 2 rfl E363 hG
                      rcases E_if2 (tg := 14) rfl rfl E363 with ⟨hc, m425, hm426, E363⟩ | ⟨hc, m427, hm428, E363⟩
                      ·
                        have c429 : 409 < c.toInt := hc
                        clear hc
                        obtain ⟨m430, hm431, E363, hG⟩ := E_go (pc' := 15) (lv' := [(0, .int c), (1, .int (400 : Int32)), (2, .int (409 : Int32))]) (st' := [.int (0 : Int32)]) (h' := h) 1 rfl E363 hG
                        have ho432 := E_reti rfl E363
                        subst ho432
                        have E : rk_ex m360 d rm_X8_isCode 46 [(0, .int c)] [.int (0 : Int32)] h = some o := F363
                        rcases E_if1 (tg := 75) rfl rfl E with ⟨hc, m433, hm434, E⟩ | ⟨hc, m435, hm436, E⟩
                        · exact absurd (show ¬ (0 : Int) = 0 from hc) (by decide)
                        ·
                          clear hc
                          obtain ⟨m437, hm438, E, hG⟩ := E_go (pc' := 56) (lv' := [(0, .int c)]) (st' := [.int (508 : Int32), .int (500 : Int32), .int c]) (h' := h) 3 rfl E hG
                          obtain ⟨m439, d440, o441, hm443, E442, F442⟩ := E_call (ar := ([.int c, .int (500 : Int32), .int (508 : Int32)], [])) rfl rfl rfl rfl rfl rfl E
                          replace E442 : rk_ex m439 d440 rm_X8_in 0 [(0, .int c), (1, .int (500 : Int32)), (2, .int (508 : Int32))] [] h = some o441 := E442
                          obtain ⟨m444, hm445, E442, hG⟩ := E_go (pc' := 2) (lv' := [(0, .int c), (1, .int (500 : Int32)), (2, .int (508 : Int32))]) (st' := [.int (500 : Int32), .int c]) (h' := h) 2 rfl E442 hG
                          rcases E_if2 (tg := 14) rfl rfl E442 with ⟨hc, m446, hm447, E442⟩ | ⟨hc, m448, hm449, E442⟩
                          ·
                            have c450 : c.toInt < 500 := hc
                            clear hc
                            obtain ⟨m451, hm452, E442, hG⟩ := E_go (pc' := 15) (lv' := [(0, .int c), (1, .int (500 : Int32)), (2, .int (508 : Int32))]) (st' := [.int (0 : Int32)]) (h' := h) 1 rfl E442 hG
                            have ho453 := E_reti rfl E442
                            subst ho453
                            have E : rk_ex m439 d rm_X8_isCode 59 [(0, .int c)] [.int (0 : Int32)] h = some o := F442
                            rcases E_if1 (tg := 75) rfl rfl E with ⟨hc, m454, hm455, E⟩ | ⟨hc, m456, hm457, E⟩
                            · exact absurd (show ¬ (0 : Int) = 0 from hc) (by decide)
                            ·
                              clear hc
                              obtain ⟨m458, hm459, E, hG⟩ := E_go (pc' := 69) (lv' := [(0, .int c)]) (st' := [.int (620 : Int32), .int (601 : Int32), .int c]) (h' := h) 3 rfl E hG
                              obtain ⟨m460, d461, o462, hm464, E463, F463⟩ := E_call (ar := ([.int c, .int (601 : Int32), .int (620 : Int32)], [])) rfl rfl rfl rfl rfl rfl E
                              replace E463 : rk_ex m460 d461 rm_X8_in 0 [(0, .int c), (1, .int (601 : Int32)), (2, .int (620 : Int32))] [] h = some o462 := E463
                              obtain ⟨m465, hm466, E463, hG⟩ := E_go (pc' := 2) (lv' := [(0, .int c), (1, .int (601 : Int32)), (2, .int (620 : Int32))]) (st' := [.int (601 : Int32), .int c]) (h' := h) 2 rfl E463 hG
                              rcases E_if2 (tg := 14) rfl rfl E463 with ⟨hc, m467, hm468, E463⟩ | ⟨hc, m469, hm470, E463⟩
                              ·
                                clear hc
                                obtain ⟨m471, hm472, E463, hG⟩ := E_go (pc' := 15) (lv' := [(0, .int c), (1, .int (601 : Int32)), (2, .int (620 : Int32))]) (st' := [.int (0 : Int32)]) (h' := h) 1 rfl E463 hG
                                have ho473 := E_reti rfl E463
                                subst ho473
                                have E : rk_ex m460 d rm_X8_isCode 72 [(0, .int c)] [.int (0 : Int32)] h = some o := F463
                                rcases E_if1 (tg := 79) rfl rfl E with ⟨hc, m474, hm475, E⟩ | ⟨hc, m476, hm477, E⟩
                                ·
                                  clear hc
                                  obtain ⟨m478, hm479, E, hG⟩ := E_go (pc' := 80) (lv' := [(0, .int c)]) (st' := [.int (0 : Int32)]) (h' := h) 1 rfl E hG
                                  have ho480 := E_reti rfl E
                                  exact ⟨_, ho480⟩
                                · exact absurd (show ¬ ((0 : Int) = 0) from hc) (by decide)
                              · exact absurd (show ¬ (c.toInt < 601) from hc) (by omega)
                          ·
                            have c481 : ¬ (c.toInt < 500) := hc
                            clear hc
                            obtain ⟨m482, hm483, E442, hG⟩ := E_go (pc' := 7) (lv' := [(0, .int c), (1, .int (500 : Int32)), (2, .int (508 : Int32))]) (st' := [.int (508 : Int32), .int c]) (h' := h) 2 rfl E442 hG
                            rcases E_if2 (tg := 14) rfl rfl E442 with ⟨hc, m484, hm485, E442⟩ | ⟨hc, m486, hm487, E442⟩
                            ·
                              have c488 : 508 < c.toInt := hc
                              clear hc
                              obtain ⟨m489, hm490, E442, hG⟩ := E_go (pc' := 15) (lv' := [(0, .int c), (1, .int (500 : Int32)), (2, .int (508 : Int32))]) (st' := [.int (0 : Int32)]) (h' := h) 1 rfl E442 hG
                              have ho491 := E_reti rfl E442
                              subst ho491
                              have E : rk_ex m439 d rm_X8_isCode 59 [(0, .int c)] [.int (0 : Int32)] h = some o := F442
                              rcases E_if1 (tg := 75) rfl rfl E with ⟨hc, m492, hm493, E⟩ | ⟨hc, m494, hm495, E⟩
                              · exact absurd (show ¬ (0 : Int) = 0 from hc) (by decide)
                              ·
                                clear hc
                                obtain ⟨m496, hm497, E, hG⟩ := E_go (pc' := 69) (lv' := [(0, .int c)]) (st' := [.int (620 : Int32), .int (601 : Int32), .int c]) (h' := h) 3 rfl E hG
                                obtain ⟨m498, d499, o500, hm502, E501, F501⟩ := E_call (ar := ([.int c, .int (601 : Int32), .int (620 : Int32)], [])) rfl rfl rfl rfl rfl rfl E
                                replace E501 : rk_ex m498 d499 rm_X8_in 0 [(0, .int c), (1, .int (601 : Int32)), (2, .int (620 : Int32))] [] h = some o500 := E501
                                obtain ⟨m503, hm504, E501, hG⟩ := E_go (pc' := 2) (lv' := [(0, .int c), (1, .int (601 : Int32)), (2, .int (620 : Int32))]) (st' := [.int (601 : Int32), .int c]) (h' := h) 2 rfl E501 hG
                                rcases E_if2 (tg := 14) rfl rfl E501 with ⟨hc, m505, hm506, E501⟩ | ⟨hc, m507, hm508, E501⟩
                                ·
                                  have c509 : c.toInt < 601 := hc
                                  clear hc
                                  obtain ⟨m510, hm511, E501, hG⟩ := E_go (pc' := 15) (lv' := [(0, .int c), (1, .int (601 : Int32)), (2, .int (620 : Int32))]) (st' := [.int (0 : Int32)]) (h' := h) 1 rfl E501 hG
                                  have ho512 := E_reti rfl E501
                                  subst ho512
                                  have E : rk_ex m498 d rm_X8_isCode 72 [(0, .int c)] [.int (0 : Int32)] h = some o := F501
                                  rcases E_if1 (tg := 79) rfl rfl E with ⟨hc, m513, hm514, E⟩ | ⟨hc, m515, hm516, E⟩
                                  ·
                                    clear hc
                                    obtain ⟨m517, hm518, E, hG⟩ := E_go (pc' := 80) (lv' := [(0, .int c)]) (st' := [.int (0 : Int32)]) (h' := h) 1 rfl E hG
                                    have ho519 := E_reti rfl E
                                    exact ⟨_, ho519⟩
                                  · exact absurd (show ¬ ((0 : Int) = 0) from hc) (by decide)
                                ·
                                  have c520 : ¬ (c.toInt < 601) := hc
                                  clear hc
                                  obtain ⟨m521, hm522, E501, hG⟩ := E_go (pc' := 7) (lv' := [(0, .int c), (1, .int (601 : Int32)), (2, .int (620 : Int32))]) (st' := [.int (620 : Int32), .int c]) (h' := h) 2 rfl E501 hG
                                  rcases E_if2 (tg := 14) rfl rfl E501 with ⟨hc, m523, hm524, E501⟩ | ⟨hc, m525, hm526, E501⟩
                                  ·
                                    have c527 : 620 < c.toInt := hc
                                    clear hc
                                    obtain ⟨m528, hm529, E501, hG⟩ := E_go (pc' := 15) (lv' := [(0, .int c), (1, .int (601 : Int32)), (2, .int (620 : Int32))]) (st' := [.int (0 : Int32)]) (h' := h) 1 rfl E501 hG
                                    have ho530 := E_reti rfl E501
                                    subst ho530
                                    have E : rk_ex m498 d rm_X8_isCode 72 [(0, .int c)] [.int (0 : Int32)] h = some o := F501
                                    rcases E_if1 (tg := 79) rfl rfl E with ⟨hc, m531, hm532, E⟩ | ⟨hc, m533, hm534, E⟩
                                    ·
                                      clear hc
                                      obtain ⟨m535, hm536, E, hG⟩ := E_go (pc' := 80) (lv' := [(0, .int c)]) (st' := [.int (0 : Int32)]) (h' := h) 1 rfl E hG
                                      have ho537 := E_reti rfl E
                                      exact ⟨_, ho537⟩
                                    · exact absurd (show ¬ ((0 : Int) = 0) from hc) (by decide)
                                  ·
                                    have c538 : ¬ (620 < c.toInt) := hc
                                    clear hc
                                    obtain ⟨m539, hm540, E501, hG⟩ := E_go (pc' := 15) (lv' := [(0, .int c), (1, .int (601 : Int32)), (2, .int (620 : Int32))]) (st' := [.int (1 : Int32)]) (h' := h) 2 rfl E501 hG
                                    have ho541 := E_reti rfl E501
                                    subst ho541
                                    have E : rk_ex m498 d rm_X8_isCode 72 [(0, .int c)] [.int (1 : Int32)] h = some o := F501
                                    rcases E_if1 (tg := 79) rfl rfl E with ⟨hc, m542, hm543, E⟩ | ⟨hc, m544, hm545, E⟩
                                    · exact absurd (show (1 : Int) = 0 from hc) (by decide)
                                    ·
                                      clear hc
                                      obtain ⟨m546, hm547, E, hG⟩ := E_go (pc' := 80) (lv' := [(0, .int c)]) (st' := [.int (1 : Int32)]) (h' := h) 2 rfl E hG
                                      have ho548 := E_reti rfl E
                                      exact ⟨_, ho548⟩
                            ·
                              have c549 : ¬ (508 < c.toInt) := hc
                              clear hc
                              obtain ⟨m550, hm551, E442, hG⟩ := E_go (pc' := 15) (lv' := [(0, .int c), (1, .int (500 : Int32)), (2, .int (508 : Int32))]) (st' := [.int (1 : Int32)]) (h' := h) 2 rfl E442 hG
                              have ho552 := E_reti rfl E442
                              subst ho552
                              have E : rk_ex m439 d rm_X8_isCode 59 [(0, .int c)] [.int (1 : Int32)] h = some o := F442
                              rcases E_if1 (tg := 75) rfl rfl E with ⟨hc, m553, hm554, E⟩ | ⟨hc, m555, hm556, E⟩
                              ·
                                clear hc
                                obtain ⟨m557, hm558, E, hG⟩ := E_go (pc' := 80) (lv' := [(0, .int c)]) (st' := [.int (1 : Int32)]) (h' := h) 2 rfl E hG
                                have ho559 := E_reti rfl E
                                exact ⟨_, ho559⟩
                              · exact absurd (show ¬ (¬ (1 : Int) = 0) from hc) (by decide)
                      ·
                        have c560 : ¬ (409 < c.toInt) := hc
                        clear hc
                        obtain ⟨m561, hm562, E363, hG⟩ := E_go (pc' := 15) (lv' := [(0, .int c), (1, .int (400 : Int32)), (2, .int (409 : Int32))]) (st' := [.int (1 : Int32)]) (h' := h) 2 rfl E363 hG
                        have ho563 := E_reti rfl E363
                        subst ho563
                        have E : rk_ex m360 d rm_X8_isCode 46 [(0, .int c)] [.int (1 : Int32)] h = some o := F363
                        rcases E_if1 (tg := 75) rfl rfl E with ⟨hc, m564, hm565, E⟩ | ⟨hc, m566, hm567, E⟩
                        ·
                          clear hc
                          obtain ⟨m568, hm569, E, hG⟩ := E_go (pc' := 80) (lv' := [(0, .int c)]) (st' := [.int (1 : Int32)]) (h' := h) 2 rfl E hG
                          have ho570 := E_reti rfl E
                          exact ⟨_, ho570⟩
                        · exact absurd (show ¬ (¬ (1 : Int) = 0) from hc) (by decide)
                ·
                  have c571 : ¬ (315 < c.toInt) := hc
                  clear hc
                  obtain ⟨m572, hm573, E264, hG⟩ := E_go (pc' := 15) (lv' := [(0, .int c), (1, .int (300 : Int32)), (2, .int (315 : Int32))]) (st' := [.int (1 : Int32)]) (h' := h) 2 rfl E264 hG
                  have ho574 := E_reti rfl E264
                  subst ho574
                  have E : rk_ex m261 d rm_X8_isCode 33 [(0, .int c)] [.int (1 : Int32)] h = some o := F264
                  rcases E_if1 (tg := 75) rfl rfl E with ⟨hc, m575, hm576, E⟩ | ⟨hc, m577, hm578, E⟩
                  ·
                    clear hc
                    obtain ⟨m579, hm580, E, hG⟩ := E_go (pc' := 80) (lv' := [(0, .int c)]) (st' := [.int (1 : Int32)]) (h' := h) 2 rfl E hG
                    have ho581 := E_reti rfl E
                    exact ⟨_, ho581⟩
                  · exact absurd (show ¬ (¬ (1 : Int) = 0) from hc) (by decide)
          ·
            have c582 : ¬ (215 < c.toInt) := hc
            clear hc
            obtain ⟨m583, hm584, E145, hG⟩ := E_go (pc' := 15) (lv' := [(0, .int c), (1, .int (200 : Int32)), (2, .int (215 : Int32))]) (st' := [.int (1 : Int32)]) (h' := h) 2 rfl E145 hG
            have ho585 := E_reti rfl E145
            subst ho585
            have E : rk_ex m142 d rm_X8_isCode 20 [(0, .int c)] [.int (1 : Int32)] h = some o := F145
            rcases E_if1 (tg := 75) rfl rfl E with ⟨hc, m586, hm587, E⟩ | ⟨hc, m588, hm589, E⟩
            ·
              clear hc
              obtain ⟨m590, hm591, E, hG⟩ := E_go (pc' := 80) (lv' := [(0, .int c)]) (st' := [.int (1 : Int32)]) (h' := h) 2 rfl E hG
              have ho592 := E_reti rfl E
              exact ⟨_, ho592⟩
            · exact absurd (show ¬ (¬ (1 : Int) = 0) from hc) (by decide)
    ·
      have c593 : ¬ (102 < c.toInt) := hc
      clear hc
      obtain ⟨m594, hm595, E6, hG⟩ := E_go (pc' := 15) (lv' := [(0, .int c), (1, .int (0 : Int32)), (2, .int (102 : Int32))]) (st' := [.int (1 : Int32)]) (h' := h) 2 rfl E6 hG
      have ho596 := E_reti rfl E6
      subst ho596
      have E : rk_ex m3 d rm_X8_isCode 7 [(0, .int c)] [.int (1 : Int32)] h = some o := F6
      rcases E_if1 (tg := 75) rfl rfl E with ⟨hc, m597, hm598, E⟩ | ⟨hc, m599, hm600, E⟩
      ·
        clear hc
        obtain ⟨m601, hm602, E, hG⟩ := E_go (pc' := 80) (lv' := [(0, .int c)]) (st' := [.int (1 : Int32)]) (h' := h) 2 rfl E hG
        have ho603 := E_reti rfl E
        exact ⟨_, ho603⟩
      · exact absurd (show ¬ (¬ (1 : Int) = 0) from hc) (by decide)
set_option maxRecDepth 100000 in
set_option maxHeartbeats 4000000 in
theorem yt_rou0 {n d : Nat} {h : rk_S} {o : Option Value × rk_S} (hG : yG h) (E : rk_ex n d rm_X7_routine 0 [(0, .ref 1)] [] h = some o) :
    ((gi h 2 5).toInt < 10 ∧ yG (rk_pt (rk_pt h 20 1 (.int (0 : Int32))) 2 5 (.int ((gi h 2 5) + (1 : Int32)))) ∧ o = (some (.int ((gi (rk_pt (rk_pt h 20 1 (.int (0 : Int32))) 2 5 (.int ((gi h 2 5) + (1 : Int32)))) 2 5) - (1 : Int32))), rk_pt (rk_pt h 20 1 (.int (0 : Int32))) 2 5 (.int ((gi h 2 5) + (1 : Int32))))) ∨
    (¬ ((gi h 2 5).toInt < 10) ∧ yG h ∧ o = (some (.int ((-4) : Int32)), h)) := by
  obtain ⟨m1, hm2, E, hG⟩ := E_go (pc' := 4) (lv' := [(0, .ref 1)]) (st' := [.ref 2]) (h' := h) 2 rfl E hG
  obtain ⟨m3, d4, o5, hm7, E6, F6⟩ := E_call (ar := ([.ref 2], [])) rfl rfl rfl rfl rfl rfl E
  replace E6 : rk_ex m3 d4 rm_X3_isFull 0 [(0, .ref 2)] [] h = some o5 := E6
  obtain ⟨m8, hm9, E6, hG⟩ := E_go (pc' := 6) (lv' := [(0, .ref 2)]) (st' := [.int (10 : Int32), .int (gi h 2 5)]) (h' := h) 3 rfl E6 hG
  rcases E_if2 (tg := 13) rfl rfl E6 with ⟨hc, m10, hm11, E6⟩ | ⟨hc, m12, hm13, E6⟩
  ·
    have c14 : (gi h 2 5).toInt < 10 := hc
    clear hc
    obtain ⟨m15, hm16, E6, hG⟩ := E_go (pc' := 14) (lv' := [(0, .ref 2)]) (st' := [.int (0 : Int32)]) (h' := h) 1 rfl E6 hG
    have ho17 := E_reti rfl E6
    subst ho17
    have E : rk_ex m3 d rm_X7_routine 7 [(0, .ref 1)] [.int (0 : Int32)] h = some o := F6
    rcases E_if1 (tg := 13) rfl rfl E with ⟨hc, m18, hm19, E⟩ | ⟨hc, m20, hm21, E⟩
    ·
      clear hc
      obtain ⟨m22, hm23, E, hG⟩ := E_go (pc' := 17) (lv' := [(0, .ref 1)]) (st' := [.ref 20]) (h' := h) 2 rfl E hG
      obtain ⟨m24, d25, o26, hm28, E27, F27⟩ := E_call (ar := ([.ref 20], [])) rfl rfl rfl rfl rfl rfl E
      replace E27 : rk_ex m24 d25 rm_X5_dropAll 0 [(0, .ref 20)] [] h = some o26 := E27
      obtain ⟨m29, hm30, E27, hG⟩ := E_go (pc' := 11) (lv' := [(1, .int (gi h 20 1)), (0, .ref 20)]) (st' := [.int (gi h 20 1)]) (h' := rk_pt h 20 1 (.int (0 : Int32))) 7 rfl E27 hG
      have ho31 := E_reti rfl E27
      subst ho31
      have E : rk_ex m24 d rm_X7_routine 20 [(0, .ref 1)] [.int (gi h 20 1)] (rk_pt h 20 1 (.int (0 : Int32))) = some o := F27
      obtain ⟨m32, hm33, E, hG⟩ := E_go (pc' := 25) (lv' := [(0, .ref 1)]) (st' := [.ref 2]) (h' := rk_pt h 20 1 (.int (0 : Int32))) 3 rfl E hG
      obtain ⟨m34, d35, o36, hm38, E37, F37⟩ := E_call (ar := ([.ref 2], [])) rfl rfl rfl rfl rfl rfl E
      replace E37 : rk_ex m34 d35 rm_X3_addRoutine 0 [(0, .ref 2)] [] (rk_pt h 20 1 (.int (0 : Int32))) = some o36 := E37
      obtain ⟨m39, hm40, E37, hG⟩ := E_go (pc' := 1) (lv' := [(0, .ref 2)]) (st' := [.ref 2]) (h' := rk_pt h 20 1 (.int (0 : Int32))) 1 rfl E37 hG
      obtain ⟨m41, d42, o43, hm45, E44, F44⟩ := E_call (ar := ([.ref 2], [])) rfl rfl rfl rfl rfl rfl E37
      replace E44 : rk_ex m41 d42 rm_X3_isFull 0 [(0, .ref 2)] [] (rk_pt h 20 1 (.int (0 : Int32))) = some o43 := E44
      obtain ⟨m46, hm47, E44, hG⟩ := E_go (pc' := 6) (lv' := [(0, .ref 2)]) (st' := [.int (10 : Int32), .int (gi (rk_pt h 20 1 (.int (0 : Int32))) 2 5)]) (h' := rk_pt h 20 1 (.int (0 : Int32))) 3 rfl E44 hG
      try simp only [gi_x (a := 20) (a' := 2) (by decide)] at E44 hG
      rcases E_if2 (tg := 13) rfl rfl E44 with ⟨hc, m48, hm49, E44⟩ | ⟨hc, m50, hm51, E44⟩
      ·
        clear hc
        obtain ⟨m52, hm53, E44, hG⟩ := E_go (pc' := 14) (lv' := [(0, .ref 2)]) (st' := [.int (0 : Int32)]) (h' := rk_pt h 20 1 (.int (0 : Int32))) 1 rfl E44 hG
        have ho54 := E_reti rfl E44
        subst ho54
        have E37 : rk_ex m41 d35 rm_X3_addRoutine 4 [(0, .ref 2)] [.int (0 : Int32)] (rk_pt h 20 1 (.int (0 : Int32))) = some o36 := F44
        rcases E_if1 (tg := 17) rfl rfl E37 with ⟨hc, m55, hm56, E37⟩ | ⟨hc, m57, hm58, E37⟩
        · exact absurd (show ¬ (0 : Int) = 0 from hc) (by decide)
        ·
          clear hc
          obtain ⟨m59, hm60, E37, hG⟩ := E_go (pc' := 23) (lv' := [(0, .ref 2)]) (st' := [.int ((gi (rk_pt (rk_pt h 20 1 (.int (0 : Int32))) 2 5 (.int ((gi (rk_pt h 20 1 (.int (0 : Int32))) 2 5) + (1 : Int32)))) 2 5) - (1 : Int32))]) (h' := rk_pt (rk_pt h 20 1 (.int (0 : Int32))) 2 5 (.int ((gi (rk_pt h 20 1 (.int (0 : Int32))) 2 5) + (1 : Int32)))) 10 rfl E37 hG
          try simp only [gi_x (a := 20) (a' := 2) (by decide)] at E37 hG
          have ho61 := E_reti rfl E37
          subst ho61
          have E : rk_ex m34 d rm_X7_routine 28 [(0, .ref 1)] [.int ((gi (rk_pt (rk_pt h 20 1 (.int (0 : Int32))) 2 5 (.int ((gi h 2 5) + (1 : Int32)))) 2 5) - (1 : Int32))] (rk_pt (rk_pt h 20 1 (.int (0 : Int32))) 2 5 (.int ((gi h 2 5) + (1 : Int32)))) = some o := F37
          have ho62 := E_reti rfl E
          exact Or.inl ⟨c14, hG, ho62⟩
      · exact absurd (show ¬ ((gi h 2 5).toInt < 10) from hc) (by omega)
    · exact absurd (show ¬ ((0 : Int) = 0) from hc) (by decide)
  ·
    have c63 : ¬ ((gi h 2 5).toInt < 10) := hc
    clear hc
    obtain ⟨m64, hm65, E6, hG⟩ := E_go (pc' := 14) (lv' := [(0, .ref 2)]) (st' := [.int (1 : Int32)]) (h' := h) 2 rfl E6 hG
    have ho66 := E_reti rfl E6
    subst ho66
    have E : rk_ex m3 d rm_X7_routine 7 [(0, .ref 1)] [.int (1 : Int32)] h = some o := F6
    rcases E_if1 (tg := 13) rfl rfl E with ⟨hc, m67, hm68, E⟩ | ⟨hc, m69, hm70, E⟩
    · exact absurd (show (1 : Int) = 0 from hc) (by decide)
    ·
      clear hc
      obtain ⟨m71, hm72, E, hG⟩ := E_go (pc' := 12) (lv' := [(0, .ref 1)]) (st' := [.int ((-4) : Int32)]) (h' := h) 1 rfl E hG
      have ho73 := E_reti rfl E
      exact Or.inr ⟨c63, hG, ho73⟩
set_option maxRecDepth 100000 in
set_option maxHeartbeats 4000000 in
theorem yt_mrou {n d : Nat} {h : rk_S} {o : Option Value × rk_S} (hG : yG h) (E : rk_ex n d rm_X8_routine 0 [(0, .ref 316)] [] h = some o) :
    (¬ (gi h 316 0).toInt = 10 ∧ yG (rk_pt (rk_pt (rk_pt (rk_pt h 317 ((gi h 316 0).toNatClampNeg) (.int (0 : Int32))) 319 ((gi h 316 0).toNatClampNeg) (.int ((0 : Int32) &&& 1))) 316 0 (.int ((gi h 316 0) + (1 : Int32)))) 322 0 (.int (0 : Int32))) ∧ o = (some (.int ((gi (rk_pt (rk_pt (rk_pt h 317 ((gi h 316 0).toNatClampNeg) (.int (0 : Int32))) 319 ((gi h 316 0).toNatClampNeg) (.int ((0 : Int32) &&& 1))) 316 0 (.int ((gi h 316 0) + (1 : Int32)))) 316 0) - (1 : Int32))), rk_pt (rk_pt (rk_pt (rk_pt h 317 ((gi h 316 0).toNatClampNeg) (.int (0 : Int32))) 319 ((gi h 316 0).toNatClampNeg) (.int ((0 : Int32) &&& 1))) 316 0 (.int ((gi h 316 0) + (1 : Int32)))) 322 0 (.int (0 : Int32)))) ∨
    ((gi h 316 0).toInt = 10 ∧ yG h ∧ o = (some (.int ((-4) : Int32)), h)) := by
  obtain ⟨m1, hm2, E, hG⟩ := E_go (pc' := 6) (lv' := [(0, .ref 316)]) (st' := [.int (10 : Int32), .int (gi h 316 0)]) (h' := h) 3 rfl E hG
  rcases E_if2 (tg := 12) rfl rfl E with ⟨hc, m3, hm4, E⟩ | ⟨hc, m5, hm6, E⟩
  ·
    have c7 : ¬ (gi h 316 0).toInt = 10 := hc
    clear hc
    obtain ⟨m8, hm9, E, hG⟩ := E_go (pc' := 55) (lv' := [(0, .ref 316)]) (st' := [.int ((gi (rk_pt (rk_pt (rk_pt (rk_pt h 317 ((gi h 316 0).toNatClampNeg) (.int (0 : Int32))) 319 ((gi (rk_pt h 317 ((gi h 316 0).toNatClampNeg) (.int (0 : Int32))) 316 0).toNatClampNeg) (.int ((0 : Int32) &&& 1))) 316 0 (.int ((gi (rk_pt (rk_pt h 317 ((gi h 316 0).toNatClampNeg) (.int (0 : Int32))) 319 ((gi (rk_pt h 317 ((gi h 316 0).toNatClampNeg) (.int (0 : Int32))) 316 0).toNatClampNeg) (.int ((0 : Int32) &&& 1))) 316 0) + (1 : Int32)))) 322 0 (.int (0 : Int32))) 316 0) - (1 : Int32))]) (h' := rk_pt (rk_pt (rk_pt (rk_pt h 317 ((gi h 316 0).toNatClampNeg) (.int (0 : Int32))) 319 ((gi (rk_pt h 317 ((gi h 316 0).toNatClampNeg) (.int (0 : Int32))) 316 0).toNatClampNeg) (.int ((0 : Int32) &&& 1))) 316 0 (.int ((gi (rk_pt (rk_pt h 317 ((gi h 316 0).toNatClampNeg) (.int (0 : Int32))) 319 ((gi (rk_pt h 317 ((gi h 316 0).toNatClampNeg) (.int (0 : Int32))) 316 0).toNatClampNeg) (.int ((0 : Int32) &&& 1))) 316 0) + (1 : Int32)))) 322 0 (.int (0 : Int32))) 27 rfl E hG
    try simp only [gi_x (a := 317) (a' := 316) (by decide), gi_x (a := 319) (a' := 316) (by decide), gi_x (a := 322) (a' := 316) (by decide)] at E hG
    have ho10 := E_reti rfl E
    exact Or.inl ⟨c7, hG, ho10⟩
  ·
    have c11 : (gi h 316 0).toInt = 10 := Decidable.not_not.mp hc
    clear hc
    obtain ⟨m12, hm13, E, hG⟩ := E_go (pc' := 11) (lv' := [(0, .ref 316)]) (st' := [.int ((-4) : Int32)]) (h' := h) 1 rfl E hG
    have ho14 := E_reti rfl E
    exact Or.inr ⟨c11, hG, ho14⟩
