/-! drop (laid by wip/gen/shelf4.py) -/
theorem wp_aasI {d : Nat} {M : rk_M} {pc : Nat} {lv : rk_L} {r : List Value} {h : rk_S} {Q : Option Value → rk_S → Prop} {len a v n nv : Nat} {j : Int32} {l : List Nat} {tv : Nat → rk_ST} (hI : rk_Iv rk_Y h) (hT : rk_Y a = some (12, n, rk_slot [.inr l])) (ha : 0 < a) (hix : rk_find M.2.2.2.2.2 pc = some (.aastore, len)) (hj : 0 ≤ j.toInt) (hn : j.toInt < n) (hv : v ∈ l) (hTv : rk_Y v = some (1, nv, tv))
    (kk : ∀ h' : rk_S, h' = rk_pt h a j.toNatClampNeg (.ref v) → rk_Iv rk_Y h' → rk_get h' a j.toNatClampNeg = some (.ref v) → rk_wp d M (pc + 1) lv r h' Q) : rk_wp d M pc lv (.ref v :: .int j :: .ref a :: r) h Q := by
  have hc := rk_clamp hj
  obtain ⟨w, vs, g1, g2, g3, g4, g5⟩ := hI.get (k := j.toNatClampNeg) hT (by dsimp only; omega)
  obtain ⟨ws, w1, -, -⟩ := hI v _ hTv
  exact wp_aas hix g1 w1 (Or.inr ⟨rfl, rfl⟩) ha hj (by dsimp only at g2 ⊢; omega) (kk _ rfl (hI.put hT (by dsimp only; omega) hv) (rk_get_self g4))
set_option maxRecDepth 100000 in
set_option maxHeartbeats 4000000 in
theorem ct_X5_drop_20 {d : Nat} {h : rk_S} (hI : rk_Iv rk_Y h) (x : Int32) : rk_wp (d + 1) rm_X5_drop 0 [(0, .ref 20), (1, .int x)] [] h (fun v h' => v = none ∧ rk_Iv rk_Y h' ∧ rk_Fr (fun b => b = 20 ∨ b = 21) h h') := by
  refine wp_go (pc' := 2) (lv' := [(0, .ref 20), (1, .int x)]) (st' := [.int x, .ref 20]) (h' := h) 2 rfl ?_
  obtain ⟨c1, g2, b3⟩ := rk_learn (k := 1) hI (show rk_Y 20 = some (5, 5, rk_slot [.inr [21], .inl [(0, 32)], .inl [(0, 32)], rk_any, rk_any]) from rfl) (by decide) rfl
  refine wp_call (M' := rm_X5_has) (ar := ([.ref 20, .int x], [])) rfl rfl (by decide) (by decide) rfl (rk_goT hI (show rk_Y 20 = some (5, 5, rk_slot [.inr [21], .inl [(0, 32)], .inl [(0, 32)], rk_any, rk_any]) from rfl) rfl rfl rfl rfl) (ct_x_has_20 hI x c1 g2) (fun v hh r5 => ?_)
  obtain ⟨e6, y4, rfl, r5⟩ := r5
  rw [e6]
  show rk_wp _ _ 5 [(0, .ref 20), (1, .int x)] [.int y4] h _
  refine wp_if1 (tg := 9) rfl rfl (fun c7 => ?_) (fun c7 => ?_)
  · have q8 : ¬ y4.toInt = 0 := of_decide_eq_true (p := ¬ y4.toInt = 0) c7
    refine wp_go (pc' := 10) (lv' := [(0, .ref 20), (1, .int x)]) (st' := [.ref 20]) (h' := h) 1 rfl ?_
    refine wp_gR hI (show rk_Y 20 = some (5, 5, rk_slot [.inr [21], .inl [(0, 32)], .inl [(0, 32)], rk_any, rk_any]) from rfl) rfl rfl rfl (by decide) rfl ?_
    refine wp_go (pc' := 14) (lv' := [(0, .ref 20), (1, .int x)]) (st' := [.int x, .ref 21]) (h' := h) 1 rfl ?_
    refine wp_aaI hI (show rk_Y 21 = some (12, 32, rk_slot [.inr [22, 25, 28, 31, 34, 37, 40, 43, 46, 49, 52, 55, 58, 61, 64, 67, 70, 73, 76, 79, 82, 85, 88, 91, 94, 97, 100, 103, 106, 109, 112, 115]]) from rfl) (Or.inr (Or.inl rfl)) rfl (by omega) (by omega) rfl (fun b9 m10 g11 => ?_)
    have K12 := rk_ks20 b9 m10
    obtain ⟨z13, z14, z15, z16⟩ := id K12
    refine wp_go (pc' := 18) (lv' := [(3, .int x), (2, .ref b9), (0, .ref 20), (1, .int x)]) (st' := []) (h' := h) 3 rfl ?_
    have loop17 : ∀ (n : Nat) (i19 : Int32) (hh20 : rk_S), 0 ≤ i19.toInt → i19.toInt ≤ 31 → 31 - i19.toInt < n → rk_Iv rk_Y hh20 → rk_Fr (fun b => b = 21) h hh20 → rk_wp (d + 1) rm_X5_drop 18 [(3, .int i19), (2, .ref b9), (0, .ref 20), (1, .int x)] [] hh20 (fun v h' => v = none ∧ rk_Iv rk_Y h' ∧ rk_Fr (fun b => b = 20 ∨ b = 21) h h') := by
      intro n
      induction n with
      | zero => intro i19 hh20 l21 l22 l23; omega
      | succ n ih18 =>
        intro i19 hh20 l21 l22 l23 hJ24 fJ25
        have fT26 : rk_Fr (fun b => b = 20 ∨ b = 21) h hh20 := rk_Fr.trans (rk_Fr.refl h) fJ25 (fun x hx => Or.inr hx)
        have g27 : rk_get hh20 20 1 = some (.int c1) := (fJ25 20 1 (show ¬ (20 = 21) by decide)).trans g2
        refine wp_go (pc' := 20) (lv' := [(3, .int i19), (2, .ref b9), (0, .ref 20), (1, .int x)]) (st' := [.ref 20, .int i19]) (h' := hh20) 2 rfl ?_
        refine wp_gK hJ24 (show rk_Y 20 = some (5, 5, rk_slot [.inr [21], .inl [(0, 32)], .inl [(0, 32)], rk_any, rk_any]) from rfl) rfl rfl rfl g27 ?_
        have t28 : (c1 - (Int32.ofInt 1)).toInt = c1.toInt - 1 := rk_subI (by decide) (by omega) (by omega)
        refine wp_go (pc' := 25) (lv' := [(3, .int i19), (2, .ref b9), (0, .ref 20), (1, .int x)]) (st' := [.int (c1 - (Int32.ofInt 1)), .int i19]) (h' := hh20) 2 rfl ?_
        refine wp_if2 (tg := 48) rfl rfl (fun c29 => ?_) (fun c29 => ?_)
        · have q30 : (c1 - (Int32.ofInt 1)).toInt ≤ i19.toInt := of_decide_eq_true (p := (c1 - (Int32.ofInt 1)).toInt ≤ i19.toInt) c29
          refine wp_go (pc' := 50) (lv' := [(3, .int i19), (2, .ref b9), (0, .ref 20), (1, .int x)]) (st' := [.ref 20, .ref 20]) (h' := hh20) 2 rfl ?_
          refine wp_gK hJ24 (show rk_Y 20 = some (5, 5, rk_slot [.inr [21], .inl [(0, 32)], .inl [(0, 32)], rk_any, rk_any]) from rfl) rfl rfl rfl g27 ?_
          have t31 : (c1 - (Int32.ofInt 1)).toInt = c1.toInt - 1 := rk_subI (by decide) (by omega) (by omega)
          refine wp_go (pc' := 55) (lv' := [(3, .int i19), (2, .ref b9), (0, .ref 20), (1, .int x)]) (st' := [.int (c1 - (Int32.ofInt 1)), .ref 20]) (h' := hh20) 2 rfl ?_
          refine wp_pI hJ24 (show rk_Y 20 = some (5, 5, rk_slot [.inr [21], .inl [(0, 32)], .inl [(0, 32)], rk_any, rk_any]) from rfl) (by decide) rfl rfl rfl (by decide) (rk_ok_one (by omega) (by omega)) rfl rfl (fun h32 e33 hI34 g35 => ?_)
          have f36 : rk_Fr (fun b => b = 20 ∨ b = 21) h h32 := by rw [e33]; exact fT26.put (Or.inl rfl)
          refine wp_go (pc' := 59) (lv' := [(3, .int i19), (2, .ref b9), (0, .ref 20), (1, .int x)]) (st' := [.ref 20]) (h' := h32) 1 rfl ?_
          refine wp_gR hI34 (show rk_Y 20 = some (5, 5, rk_slot [.inr [21], .inl [(0, 32)], .inl [(0, 32)], rk_any, rk_any]) from rfl) rfl rfl rfl (by decide) rfl ?_
          refine wp_go (pc' := 63) (lv' := [(3, .int i19), (2, .ref b9), (0, .ref 20), (1, .int x)]) (st' := [.ref 20, .ref 21]) (h' := h32) 1 rfl ?_
          refine wp_gK hI34 (show rk_Y 20 = some (5, 5, rk_slot [.inr [21], .inl [(0, 32)], .inl [(0, 32)], rk_any, rk_any]) from rfl) rfl rfl rfl g35 ?_
          refine wp_go (pc' := 67) (lv' := [(3, .int i19), (2, .ref b9), (0, .ref 20), (1, .int x)]) (st' := [.ref b9, .int (c1 - (Int32.ofInt 1)), .ref 21]) (h' := h32) 1 rfl ?_
          refine wp_aasI hI34 (show rk_Y 21 = some (12, 32, rk_slot [.inr [22, 25, 28, 31, 34, 37, 40, 43, 46, 49, 52, 55, 58, 61, 64, 67, 70, 73, 76, 79, 82, 85, 88, 91, 94, 97, 100, 103, 106, 109, 112, 115]]) from rfl) (by decide) rfl (by omega) (by omega) m10 z14 (fun h37 e38 hI39 g40 => ?_)
          have f41 : rk_Fr (fun b => b = 20 ∨ b = 21) h h37 := by rw [e38]; exact f36.put (Or.inr rfl)
          exact wp_ret rfl rfl ⟨rfl, hI39, f41⟩
        · have q30 : ¬ ((c1 - (Int32.ofInt 1)).toInt ≤ i19.toInt) := of_decide_eq_false (p := (c1 - (Int32.ofInt 1)).toInt ≤ i19.toInt) c29
          refine wp_go (pc' := 29) (lv' := [(3, .int i19), (2, .ref b9), (0, .ref 20), (1, .int x)]) (st' := [.ref 20]) (h' := hh20) 1 rfl ?_
          refine wp_gR hJ24 (show rk_Y 20 = some (5, 5, rk_slot [.inr [21], .inl [(0, 32)], .inl [(0, 32)], rk_any, rk_any]) from rfl) rfl rfl rfl (by decide) rfl ?_
          refine wp_go (pc' := 34) (lv' := [(3, .int i19), (2, .ref b9), (0, .ref 20), (1, .int x)]) (st' := [.ref 20, .int i19, .ref 21]) (h' := hh20) 2 rfl ?_
          refine wp_gR hJ24 (show rk_Y 20 = some (5, 5, rk_slot [.inr [21], .inl [(0, 32)], .inl [(0, 32)], rk_any, rk_any]) from rfl) rfl rfl rfl (by decide) rfl ?_
          have t42 : (i19 + (Int32.ofInt 1)).toInt = i19.toInt + 1 := rk_addI (by decide) (by omega) (by omega)
          refine wp_go (pc' := 40) (lv' := [(3, .int i19), (2, .ref b9), (0, .ref 20), (1, .int x)]) (st' := [.int (i19 + (Int32.ofInt 1)), .ref 21, .int i19, .ref 21]) (h' := hh20) 3 rfl ?_
          refine wp_aaI hJ24 (show rk_Y 21 = some (12, 32, rk_slot [.inr [22, 25, 28, 31, 34, 37, 40, 43, 46, 49, 52, 55, 58, 61, 64, 67, 70, 73, 76, 79, 82, 85, 88, 91, 94, 97, 100, 103, 106, 109, 112, 115]]) from rfl) (Or.inr (Or.inl rfl)) rfl (by omega) (by omega) rfl (fun b43 m44 g45 => ?_)
          have K46 := rk_ks20 b43 m44
          obtain ⟨z47, z48, z49, z50⟩ := id K46
          refine wp_aasI hJ24 (show rk_Y 21 = some (12, 32, rk_slot [.inr [22, 25, 28, 31, 34, 37, 40, 43, 46, 49, 52, 55, 58, 61, 64, 67, 70, 73, 76, 79, 82, 85, 88, 91, 94, 97, 100, 103, 106, 109, 112, 115]]) from rfl) (by decide) rfl (by omega) (by omega) m44 z48 (fun h51 e52 hI53 g54 => ?_)
          have f55 : rk_Fr (fun b => b = 20 ∨ b = 21) h h51 := by rw [e52]; exact fT26.put (Or.inr rfl)
          have fl56 : rk_Fr (fun b => b = 21) h h51 := by rw [e52]; exact fJ25.put rfl
          have t57 : (i19 + Int32.ofInt 1).toInt = i19.toInt + 1 := rk_addI (by decide) (by omega) (by omega)
          refine wp_go (pc' := 18) (lv' := [(3, .int (i19 + Int32.ofInt 1)), (2, .ref b9), (0, .ref 20), (1, .int x)]) (st' := []) (h' := h51) 2 rfl ?_
          exact ih18 (i19 + Int32.ofInt 1) h51 (by omega) (by omega) (by omega) hI53 fl56
    exact loop17 32 x h (by omega) (by omega) (by omega) hI (rk_Fr.refl _)
  · have q8 : ¬ (¬ y4.toInt = 0) := of_decide_eq_false (p := ¬ y4.toInt = 0) c7
    exact wp_ret rfl rfl ⟨rfl, hI, (rk_Fr.refl h)⟩
set_option maxRecDepth 100000 in
set_option maxHeartbeats 4000000 in
theorem ct_X5_drop_158 {d : Nat} {h : rk_S} (hI : rk_Iv rk_Y h) (x : Int32) : rk_wp (d + 1) rm_X5_drop 0 [(0, .ref 158), (1, .int x)] [] h (fun v h' => v = none ∧ rk_Iv rk_Y h' ∧ rk_Fr (fun b => b = 158 ∨ b = 159) h h') := by
  refine wp_go (pc' := 2) (lv' := [(0, .ref 158), (1, .int x)]) (st' := [.int x, .ref 158]) (h' := h) 2 rfl ?_
  obtain ⟨c1, g2, b3⟩ := rk_learn (k := 1) hI (show rk_Y 158 = some (5, 5, rk_slot [.inr [159], .inl [(0, 32)], .inl [(0, 32)], rk_any, rk_any]) from rfl) (by decide) rfl
  refine wp_call (M' := rm_X5_has) (ar := ([.ref 158, .int x], [])) rfl rfl (by decide) (by decide) rfl (rk_goT hI (show rk_Y 158 = some (5, 5, rk_slot [.inr [159], .inl [(0, 32)], .inl [(0, 32)], rk_any, rk_any]) from rfl) rfl rfl rfl rfl) (ct_x_has_158 hI x c1 g2) (fun v hh r5 => ?_)
  obtain ⟨e6, y4, rfl, r5⟩ := r5
  rw [e6]
  show rk_wp _ _ 5 [(0, .ref 158), (1, .int x)] [.int y4] h _
  refine wp_if1 (tg := 9) rfl rfl (fun c7 => ?_) (fun c7 => ?_)
  · have q8 : ¬ y4.toInt = 0 := of_decide_eq_true (p := ¬ y4.toInt = 0) c7
    refine wp_go (pc' := 10) (lv' := [(0, .ref 158), (1, .int x)]) (st' := [.ref 158]) (h' := h) 1 rfl ?_
    refine wp_gR hI (show rk_Y 158 = some (5, 5, rk_slot [.inr [159], .inl [(0, 32)], .inl [(0, 32)], rk_any, rk_any]) from rfl) rfl rfl rfl (by decide) rfl ?_
    refine wp_go (pc' := 14) (lv' := [(0, .ref 158), (1, .int x)]) (st' := [.int x, .ref 159]) (h' := h) 1 rfl ?_
    refine wp_aaI hI (show rk_Y 159 = some (12, 32, rk_slot [.inr [160, 163, 166, 169, 172, 175, 178, 181, 184, 187, 190, 193, 196, 199, 202, 205, 208, 211, 214, 217, 220, 223, 226, 229, 232, 235, 238, 241, 244, 247, 250, 253]]) from rfl) (Or.inr (Or.inl rfl)) rfl (by omega) (by omega) rfl (fun b9 m10 g11 => ?_)
    have K12 := rk_ks158 b9 m10
    obtain ⟨z13, z14, z15, z16⟩ := id K12
    refine wp_go (pc' := 18) (lv' := [(3, .int x), (2, .ref b9), (0, .ref 158), (1, .int x)]) (st' := []) (h' := h) 3 rfl ?_
    have loop17 : ∀ (n : Nat) (i19 : Int32) (hh20 : rk_S), 0 ≤ i19.toInt → i19.toInt ≤ 31 → 31 - i19.toInt < n → rk_Iv rk_Y hh20 → rk_Fr (fun b => b = 159) h hh20 → rk_wp (d + 1) rm_X5_drop 18 [(3, .int i19), (2, .ref b9), (0, .ref 158), (1, .int x)] [] hh20 (fun v h' => v = none ∧ rk_Iv rk_Y h' ∧ rk_Fr (fun b => b = 158 ∨ b = 159) h h') := by
      intro n
      induction n with
      | zero => intro i19 hh20 l21 l22 l23; omega
      | succ n ih18 =>
        intro i19 hh20 l21 l22 l23 hJ24 fJ25
        have fT26 : rk_Fr (fun b => b = 158 ∨ b = 159) h hh20 := rk_Fr.trans (rk_Fr.refl h) fJ25 (fun x hx => Or.inr hx)
        have g27 : rk_get hh20 158 1 = some (.int c1) := (fJ25 158 1 (show ¬ (158 = 159) by decide)).trans g2
        refine wp_go (pc' := 20) (lv' := [(3, .int i19), (2, .ref b9), (0, .ref 158), (1, .int x)]) (st' := [.ref 158, .int i19]) (h' := hh20) 2 rfl ?_
        refine wp_gK hJ24 (show rk_Y 158 = some (5, 5, rk_slot [.inr [159], .inl [(0, 32)], .inl [(0, 32)], rk_any, rk_any]) from rfl) rfl rfl rfl g27 ?_
        have t28 : (c1 - (Int32.ofInt 1)).toInt = c1.toInt - 1 := rk_subI (by decide) (by omega) (by omega)
        refine wp_go (pc' := 25) (lv' := [(3, .int i19), (2, .ref b9), (0, .ref 158), (1, .int x)]) (st' := [.int (c1 - (Int32.ofInt 1)), .int i19]) (h' := hh20) 2 rfl ?_
        refine wp_if2 (tg := 48) rfl rfl (fun c29 => ?_) (fun c29 => ?_)
        · have q30 : (c1 - (Int32.ofInt 1)).toInt ≤ i19.toInt := of_decide_eq_true (p := (c1 - (Int32.ofInt 1)).toInt ≤ i19.toInt) c29
          refine wp_go (pc' := 50) (lv' := [(3, .int i19), (2, .ref b9), (0, .ref 158), (1, .int x)]) (st' := [.ref 158, .ref 158]) (h' := hh20) 2 rfl ?_
          refine wp_gK hJ24 (show rk_Y 158 = some (5, 5, rk_slot [.inr [159], .inl [(0, 32)], .inl [(0, 32)], rk_any, rk_any]) from rfl) rfl rfl rfl g27 ?_
          have t31 : (c1 - (Int32.ofInt 1)).toInt = c1.toInt - 1 := rk_subI (by decide) (by omega) (by omega)
          refine wp_go (pc' := 55) (lv' := [(3, .int i19), (2, .ref b9), (0, .ref 158), (1, .int x)]) (st' := [.int (c1 - (Int32.ofInt 1)), .ref 158]) (h' := hh20) 2 rfl ?_
          refine wp_pI hJ24 (show rk_Y 158 = some (5, 5, rk_slot [.inr [159], .inl [(0, 32)], .inl [(0, 32)], rk_any, rk_any]) from rfl) (by decide) rfl rfl rfl (by decide) (rk_ok_one (by omega) (by omega)) rfl rfl (fun h32 e33 hI34 g35 => ?_)
          have f36 : rk_Fr (fun b => b = 158 ∨ b = 159) h h32 := by rw [e33]; exact fT26.put (Or.inl rfl)
          refine wp_go (pc' := 59) (lv' := [(3, .int i19), (2, .ref b9), (0, .ref 158), (1, .int x)]) (st' := [.ref 158]) (h' := h32) 1 rfl ?_
          refine wp_gR hI34 (show rk_Y 158 = some (5, 5, rk_slot [.inr [159], .inl [(0, 32)], .inl [(0, 32)], rk_any, rk_any]) from rfl) rfl rfl rfl (by decide) rfl ?_
          refine wp_go (pc' := 63) (lv' := [(3, .int i19), (2, .ref b9), (0, .ref 158), (1, .int x)]) (st' := [.ref 158, .ref 159]) (h' := h32) 1 rfl ?_
          refine wp_gK hI34 (show rk_Y 158 = some (5, 5, rk_slot [.inr [159], .inl [(0, 32)], .inl [(0, 32)], rk_any, rk_any]) from rfl) rfl rfl rfl g35 ?_
          refine wp_go (pc' := 67) (lv' := [(3, .int i19), (2, .ref b9), (0, .ref 158), (1, .int x)]) (st' := [.ref b9, .int (c1 - (Int32.ofInt 1)), .ref 159]) (h' := h32) 1 rfl ?_
          refine wp_aasI hI34 (show rk_Y 159 = some (12, 32, rk_slot [.inr [160, 163, 166, 169, 172, 175, 178, 181, 184, 187, 190, 193, 196, 199, 202, 205, 208, 211, 214, 217, 220, 223, 226, 229, 232, 235, 238, 241, 244, 247, 250, 253]]) from rfl) (by decide) rfl (by omega) (by omega) m10 z14 (fun h37 e38 hI39 g40 => ?_)
          have f41 : rk_Fr (fun b => b = 158 ∨ b = 159) h h37 := by rw [e38]; exact f36.put (Or.inr rfl)
          exact wp_ret rfl rfl ⟨rfl, hI39, f41⟩
        · have q30 : ¬ ((c1 - (Int32.ofInt 1)).toInt ≤ i19.toInt) := of_decide_eq_false (p := (c1 - (Int32.ofInt 1)).toInt ≤ i19.toInt) c29
          refine wp_go (pc' := 29) (lv' := [(3, .int i19), (2, .ref b9), (0, .ref 158), (1, .int x)]) (st' := [.ref 158]) (h' := hh20) 1 rfl ?_
          refine wp_gR hJ24 (show rk_Y 158 = some (5, 5, rk_slot [.inr [159], .inl [(0, 32)], .inl [(0, 32)], rk_any, rk_any]) from rfl) rfl rfl rfl (by decide) rfl ?_
          refine wp_go (pc' := 34) (lv' := [(3, .int i19), (2, .ref b9), (0, .ref 158), (1, .int x)]) (st' := [.ref 158, .int i19, .ref 159]) (h' := hh20) 2 rfl ?_
          refine wp_gR hJ24 (show rk_Y 158 = some (5, 5, rk_slot [.inr [159], .inl [(0, 32)], .inl [(0, 32)], rk_any, rk_any]) from rfl) rfl rfl rfl (by decide) rfl ?_
          have t42 : (i19 + (Int32.ofInt 1)).toInt = i19.toInt + 1 := rk_addI (by decide) (by omega) (by omega)
          refine wp_go (pc' := 40) (lv' := [(3, .int i19), (2, .ref b9), (0, .ref 158), (1, .int x)]) (st' := [.int (i19 + (Int32.ofInt 1)), .ref 159, .int i19, .ref 159]) (h' := hh20) 3 rfl ?_
          refine wp_aaI hJ24 (show rk_Y 159 = some (12, 32, rk_slot [.inr [160, 163, 166, 169, 172, 175, 178, 181, 184, 187, 190, 193, 196, 199, 202, 205, 208, 211, 214, 217, 220, 223, 226, 229, 232, 235, 238, 241, 244, 247, 250, 253]]) from rfl) (Or.inr (Or.inl rfl)) rfl (by omega) (by omega) rfl (fun b43 m44 g45 => ?_)
          have K46 := rk_ks158 b43 m44
          obtain ⟨z47, z48, z49, z50⟩ := id K46
          refine wp_aasI hJ24 (show rk_Y 159 = some (12, 32, rk_slot [.inr [160, 163, 166, 169, 172, 175, 178, 181, 184, 187, 190, 193, 196, 199, 202, 205, 208, 211, 214, 217, 220, 223, 226, 229, 232, 235, 238, 241, 244, 247, 250, 253]]) from rfl) (by decide) rfl (by omega) (by omega) m44 z48 (fun h51 e52 hI53 g54 => ?_)
          have f55 : rk_Fr (fun b => b = 158 ∨ b = 159) h h51 := by rw [e52]; exact fT26.put (Or.inr rfl)
          have fl56 : rk_Fr (fun b => b = 159) h h51 := by rw [e52]; exact fJ25.put rfl
          have t57 : (i19 + Int32.ofInt 1).toInt = i19.toInt + 1 := rk_addI (by decide) (by omega) (by omega)
          refine wp_go (pc' := 18) (lv' := [(3, .int (i19 + Int32.ofInt 1)), (2, .ref b9), (0, .ref 158), (1, .int x)]) (st' := []) (h' := h51) 2 rfl ?_
          exact ih18 (i19 + Int32.ofInt 1) h51 (by omega) (by omega) (by omega) hI53 fl56
    exact loop17 32 x h (by omega) (by omega) (by omega) hI (rk_Fr.refl _)
  · have q8 : ¬ (¬ y4.toInt = 0) := of_decide_eq_false (p := ¬ y4.toInt = 0) c7
    exact wp_ret rfl rfl ⟨rfl, hI, (rk_Fr.refl h)⟩
