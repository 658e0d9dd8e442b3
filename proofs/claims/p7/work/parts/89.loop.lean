/-! the law's loop, and the claim -/
set_option maxRecDepth 100000 in
set_option maxHeartbeats 4000000 in
theorem lw_loop {L : Nat} (hL : L ≤ 2560) (xs : Nat → Int32) : ∀ (N m : Nat) (i : Int32) (h : rk_S), i.toInt = m → m ≤ 2565 → L ≤ m + N → lB L xs h → lJ h → rk_wp 2000 rm_L_law 18 (lw_lv i) [] h (fun v h' => v = some (.int 1) ∧ h'.length = 345 ∧ rk_sz h' = rk_sz (rk_scr L xs :: rk_HM.tail)) := by
  intro N
  induction N with
  | zero =>
    intro m i h hm hm5 hN hB hC
    refine wp_stp (ix := (.iload_n 3, 1)) (t := (19, lw_lv i, [.int i], h)) rfl rfl ?_
    refine wp_stp (ix := (.aload_n 0, 1)) (t := (20, lw_lv i, [.ref 0, .int i], h)) rfl rfl ?_
    refine wp_stp (ix := (.arraylength, 1)) (t := (21, lw_lv i, [.int (Int32.ofNat L), .int i], h)) rfl (by simp only [rk_stp, hB.1, rk_scr, Nat.beq, cond_true, List.length_map, List.length_range]) ?_
    refine wp_stp (ix := (.iconst 5, 1)) (t := (22, lw_lv i, [.int (Int32.ofInt 5), .int (Int32.ofNat L), .int i], h)) rfl rfl ?_
    refine wp_stp (ix := (.isub, 1)) (t := (23, lw_lv i, [.int (Int32.ofNat L - Int32.ofInt 5), .int i], h)) rfl rfl ?_
    have hl : (Int32.ofNat L - Int32.ofInt 5).toInt = L - 5 := by
      rw [Int32.toInt_sub, Int32.toInt_ofNat_of_lt (by omega), show (Int32.ofInt 5).toInt = 5 from rfl]
      exact rk_bm (by omega) (by omega)
    refine wp_if2 (tg := 700) rfl rfl (fun _ => ?_) (fun c => ?_)
    · refine wp_stp (ix := (.iconst 1, 1)) (t := (701, lw_lv i, [.int (Int32.ofInt 1)], h)) rfl rfl ?_
      exact wp_ret (ix := (.ireturn, 1)) (v := some (.int 1)) rfl rfl ⟨rfl, hB.2.2.1, hB.2.2.2⟩
    · have := of_decide_eq_false (p := (Int32.ofNat L - Int32.ofInt 5).toInt < i.toInt) c
      omega
  | succ N ih =>
    intro m i h hm hm5 hN hB hC
    refine wp_stp (ix := (.iload_n 3, 1)) (t := (19, lw_lv i, [.int i], h)) rfl rfl ?_
    refine wp_stp (ix := (.aload_n 0, 1)) (t := (20, lw_lv i, [.ref 0, .int i], h)) rfl rfl ?_
    refine wp_stp (ix := (.arraylength, 1)) (t := (21, lw_lv i, [.int (Int32.ofNat L), .int i], h)) rfl (by simp only [rk_stp, hB.1, rk_scr, Nat.beq, cond_true, List.length_map, List.length_range]) ?_
    refine wp_stp (ix := (.iconst 5, 1)) (t := (22, lw_lv i, [.int (Int32.ofInt 5), .int (Int32.ofNat L), .int i], h)) rfl rfl ?_
    refine wp_stp (ix := (.isub, 1)) (t := (23, lw_lv i, [.int (Int32.ofNat L - Int32.ofInt 5), .int i], h)) rfl rfl ?_
    have hl : (Int32.ofNat L - Int32.ofInt 5).toInt = L - 5 := by
      rw [Int32.toInt_sub, Int32.toInt_ofNat_of_lt (by omega), show (Int32.ofInt 5).toInt = 5 from rfl]
      exact rk_bm (by omega) (by omega)
    refine wp_if2 (tg := 700) rfl rfl (fun _ => ?_) (fun c => ?_)
    · refine wp_stp (ix := (.iconst 1, 1)) (t := (701, lw_lv i, [.int (Int32.ofInt 1)], h)) rfl rfl ?_
      exact wp_ret (ix := (.ireturn, 1)) (v := some (.int 1)) rfl rfl ⟨rfl, hB.2.2.1, hB.2.2.2⟩
    · have hc := of_decide_eq_false (p := (Int32.ofNat L - Int32.ofInt 5).toInt < i.toInt) c
      have hb : m + 5 ≤ L := by omega
      have next : ∀ h', lB L xs h' → lJ h' → rk_wp 2000 rm_L_law 694 (lw_lv i) [] h' (fun v h' => v = some (.int 1) ∧ h'.length = 345 ∧ rk_sz h' = rk_sz (rk_scr L xs :: rk_HM.tail)) := by
        intro h' hB' hC'
        refine wp_stp (ix := (.iinc 3 5, 3)) (t := (697, lw_lv (i + Int32.ofInt 5), [], h')) rfl rfl ?_
        refine wp_stp (ix := (.goto (-679), 3)) (t := (18, lw_lv (i + Int32.ofInt 5), [], h')) rfl rfl ?_
        refine ih (m + 5) (i + Int32.ofInt 5) h' ?_ (by omega) (by omega) hB' hC'
        rw [Int32.toInt_add, hm, show (Int32.ofInt 5).toInt = 5 from rfl]
        exact rk_bm (by omega) (by omega)
      refine wp_stp (ix := (.aload_n 0, 1)) (t := (27, lw_lv i, [.ref 0], h)) rfl rfl ?_
      refine wp_stp (ix := (.iload_n 3, 1)) (t := (28, lw_lv i, [.int i, .ref 0], h)) rfl rfl ?_
      refine lw_at hB (k := m) (a := 0) hm (by omega) rfl ?_
      refine wp_stp (ix := (.bipush 31, 2)) (t := (31, lw_lv i, [.int (Int8.ofInt 31).toInt32, .int (xs m)], h)) rfl rfl ?_
      refine wp_stp (ix := (.iand, 1)) (t := (32, lw_lv i, [.int (xs m &&& (Int8.ofInt 31).toInt32)], h)) rfl rfl ?_
      have h31 : (Int8.ofInt 31).toInt32.toInt = 31 := by decide
      have hv := x_and (x := xs m) (y := (Int8.ofInt 31).toInt32) (by rw [h31]; omega)
      rw [h31] at hv
      generalize hw : xs m &&& (Int8.ofInt 31).toInt32 = w at *
      by_cases hd : 19 < w.toInt
      · exact lw_sd (tg := 694) rfl (Or.inr hd) rfl (next h hB hC)
      · have hk : w.toInt = 0 ∨ w.toInt = 1 ∨ w.toInt = 2 ∨ w.toInt = 3 ∨ w.toInt = 4 ∨ w.toInt = 5 ∨ w.toInt = 6 ∨ w.toInt = 7 ∨ w.toInt = 8 ∨ w.toInt = 9 ∨ w.toInt = 10 ∨ w.toInt = 11 ∨ w.toInt = 12 ∨ w.toInt = 13 ∨ w.toInt = 14 ∨ w.toInt = 15 ∨ w.toInt = 16 ∨ w.toInt = 17 ∨ w.toInt = 18 ∨ w.toInt = 19 := by omega
        rcases hk with hk | hk | hk | hk | hk | hk | hk | hk | hk | hk | hk | hk | hk | hk | hk | hk | hk | hk | hk | hk
        · exact lw_sw (k := 0) (tg := 128) rfl hk (by decide) (by decide) rfl rfl (lw_c0 hB hC hm hb hL next)
        · exact lw_sw (k := 1) (tg := 141) rfl hk (by decide) (by decide) rfl rfl (lw_c1 hB hC hm hb hL next)
        · exact lw_sw (k := 2) (tg := 174) rfl hk (by decide) (by decide) rfl rfl (lw_c2 hB hC hm hb hL next)
        · exact lw_sw (k := 3) (tg := 207) rfl hk (by decide) (by decide) rfl rfl (lw_c3 hB hC hm hb hL next)
        · exact lw_sw (k := 4) (tg := 240) rfl hk (by decide) (by decide) rfl rfl (lw_c4 hB hC hm hb hL next)
        · exact lw_sw (k := 5) (tg := 263) rfl hk (by decide) (by decide) rfl rfl (lw_c5 hB hC hm hb hL next)
        · exact lw_sw (k := 6) (tg := 286) rfl hk (by decide) (by decide) rfl rfl (lw_c6 hB hC hm hb hL next)
        · exact lw_sw (k := 7) (tg := 309) rfl hk (by decide) (by decide) rfl rfl (lw_c7 hB hC hm hb hL next)
        · exact lw_sw (k := 8) (tg := 332) rfl hk (by decide) (by decide) rfl rfl (lw_c8 hB hC hm hb hL next)
        · exact lw_sw (k := 9) (tg := 385) rfl hk (by decide) (by decide) rfl rfl (lw_c9 hB hC hm hb hL next)
        · exact lw_sw (k := 10) (tg := 398) rfl hk (by decide) (by decide) rfl rfl (lw_c10 hB hC hm hb hL next)
        · exact lw_sw (k := 11) (tg := 421) rfl hk (by decide) (by decide) rfl rfl (lw_c11 hB hC hm hb hL next)
        · exact lw_sw (k := 12) (tg := 470) rfl hk (by decide) (by decide) rfl rfl (lw_c12 hB hC hm hb hL next)
        · exact lw_sw (k := 13) (tg := 503) rfl hk (by decide) (by decide) rfl rfl (lw_c13 hB hC hm hb hL next)
        · exact lw_sw (k := 14) (tg := 516) rfl hk (by decide) (by decide) rfl rfl (lw_c14 hB hC hm hb hL next)
        · exact lw_sw (k := 15) (tg := 549) rfl hk (by decide) (by decide) rfl rfl (lw_c15 hB hC hm hb hL next)
        · exact lw_sw (k := 16) (tg := 602) rfl hk (by decide) (by decide) rfl rfl (lw_c16 hB hC hm hb hL next)
        · exact lw_sw (k := 17) (tg := 615) rfl hk (by decide) (by decide) rfl rfl (lw_c17 hB hC hm hb hL next)
        · exact lw_sw (k := 18) (tg := 648) rfl hk (by decide) (by decide) rfl rfl (lw_c18 hB hC hm hb hL next)
        · exact lw_sw (k := 19) (tg := 671) rfl hk (by decide) (by decide) rfl rfl (lw_c19 hB hC hm hb hL next)
set_option maxRecDepth 100000 in
theorem lw_made (c0 : Nat × List Value) {o : Option Value × rk_S} (he : rk_ev 2000 rm_L_law 18 [(3, .int (Int32.ofInt 0)), (2, .ref 316), (1, .ref 1), (0, .ref 0)] [] (c0 :: rk_HM.tail) o) : rk_ev 2000 rm_L_law 0 [(0, .ref 0)] [] [c0] o := by
  obtain ⟨hX, f1, f2⟩ := rk_ex0 30000 1999 rm_X7_init 0 (lv_args 0 [.ref 1]) [] [(7, rk_df 7)] (none, rk_HX) (by decide) rk_oX_ok
  dsimp only at f1 f2
  have e2 : rk_ex 30000 1999 rm_X8_init 0 (lv_args 0 [.ref 316]) [] (rk_x :: (hX ++ [(8, rk_df 8)])) = some (none, rk_HM) := by
    have := rk_oM_ok
    unfold rk_oM at this
    rw [f1] at this
    exact this
  obtain ⟨hM, g1, g2⟩ := rk_ex0 _ _ _ _ _ _ _ _ (by decide) e2
  dsimp only at g1 g2
  have hMe : hM = rk_HM.tail := by rw [g1]; rfl
  subst hMe
  have hlen : (c0 :: hX).length = 316 := by
    have := rk_HX_l.1
    rw [f1] at this
    exact this
  have hget : ((c0 :: hX) ++ [(8, rk_df 8)])[316]? = some (8, rk_df 8) := by
    rw [List.getElem?_append_right (by omega), hlen]
    rfl
  refine ev_go (pc' := 4) (lv' := [(0, .ref 0)]) (st' := [.ref 1, .ref 1]) (h' := [c0, (7, rk_df 7)]) 2 rfl ?_
  refine ev_call (M' := rm_X7_init) (ar := ([.ref 1], [.ref 1])) (o' := (none, c0 :: hX)) rfl rfl (by decide) (by decide) rfl rfl ⟨_, f2 c0⟩ ?_
  show rk_ev _ _ 7 [(0, .ref 0)] [.ref 1] (c0 :: hX) _
  refine ev_go (pc' := 8) (lv' := [(1, .ref 1), (0, .ref 0)]) (st' := []) (h' := c0 :: hX) 1 rfl ?_
  refine ev_stp (ix := (.new 10, 3)) (t := (11, [(1, .ref 1), (0, .ref 0)], [.ref 316], (c0 :: hX) ++ [(8, rk_df 8)])) rfl ?_ ?_
  · show some (11, [(1, Value.ref 1), (0, .ref 0)], [Value.ref (c0 :: hX).length], (c0 :: hX) ++ [(8, rk_df 8)]) = _
    rw [hlen]
  show rk_ev _ _ 11 [(1, .ref 1), (0, .ref 0)] [.ref 316] ((c0 :: hX) ++ [(8, rk_df 8)]) _
  refine ev_go (pc' := 12) (lv' := [(1, .ref 1), (0, .ref 0)]) (st' := [.ref 316, .ref 316]) (h' := (c0 :: hX) ++ [(8, rk_df 8)]) 1 rfl ?_
  refine ev_call (M' := rm_X8_init) (ar := ([.ref 316], [.ref 316])) (o' := (none, c0 :: rk_HM.tail)) rfl rfl (by decide) (by decide) rfl ?_ ⟨_, g2 c0⟩ ?_
  · show (match ((c0 :: hX) ++ [(8, rk_df 8)])[316]? with | some q => (bif Nat.beq 2 2 || Nat.beq q.1 8 then rk_gx rm_X8_init [.ref 316] [.ref 316] else none) | none => none) = _
    rw [hget]
    rfl
  show rk_ev _ _ 15 [(1, .ref 1), (0, .ref 0)] [.ref 316] (c0 :: rk_HM.tail) _
  refine ev_go (pc' := 18) (lv' := [(3, .int (Int32.ofInt 0)), (2, .ref 316), (1, .ref 1), (0, .ref 0)]) (st' := []) (h' := c0 :: rk_HM.tail) 3 rfl ?_
  exact he
theorem lw_x : rk_HM = rk_x :: rk_HM.tail := rfl
theorem rk_sz_cons (q : Nat × List Value) (h : rk_S) : rk_sz (q :: h) = q.2.length + rk_sz h := by simp [rk_sz]
theorem lw_sz {L : Nat} (hL : L ≤ 2560) (xs : Nat → Int32) : rk_sz (rk_scr L xs :: rk_HM.tail) ≤ 7302250 := by
  have h1 := rk_HX_l.2.2
  rw [lw_x] at h1
  rw [rk_sz_cons] at h1
  have h2 : (rk_x.2.length : Nat) = 0 := rfl
  have h3 : rk_sz (rk_scr L xs :: rk_HM.tail) = ((List.range L).map (fun j => Value.int (xs j))).length + rk_sz rk_HM.tail := rk_sz_cons _ _
  rw [h3, List.length_map, List.length_range]
  omega
theorem rk_iv_c0 (c0 c1 : Nat × List Value) (t : rk_S) (n k : Nat) : rk_iv (c1 :: t) (n + 1) k = rk_iv (c0 :: t) (n + 1) k := rfl
set_option maxRecDepth 100000 in
theorem lw_C0 : (zeq (rk_iv rk_HM 2 5) (rk_iv rk_HM 316 0) && (List.range 10).all (fun r => zeq (rk_iv rk_HM 14 r) 0 && zeq (rk_iv rk_HM 317 r) 0)) = true := by decide +kernel
theorem lw_C3 (c0 : Nat × List Value) : lC3 (c0 :: rk_HM.tail) := by
  have h0 := lw_C0
  rw [Bool.and_eq_true] at h0
  have e : ∀ b k, 0 < b → rk_iv (c0 :: rk_HM.tail) b k = rk_iv rk_HM b k := by
    intro b k hb
    cases b with
    | zero => omega
    | succ b => rw [lw_x]; exact rk_iv_c0 rk_x c0 rk_HM.tail b k
  have h1 : ∀ r : Nat, r < 10 → rk_iv rk_HM 14 r = 0 ∧ rk_iv rk_HM 317 r = 0 := by
    intro r hr
    have q := List.all_eq_true.mp h0.2 r (List.mem_range.mpr hr)
    rw [Bool.and_eq_true] at q
    exact ⟨zeq_ok q.1, zeq_ok q.2⟩
  refine ⟨?_, fun r hr => ?_, fun r hr _ => ?_, fun r j hr hj => ?_⟩
  · rw [e 2 5 (by omega), e 316 0 (by omega)]; exact zeq_ok h0.1
  · rw [e 14 r (by omega), e 317 r (by omega), (h1 r hr).1, (h1 r hr).2]
  · rw [e 14 r (by omega)]; exact (h1 r hr).1
  · rw [e 14 r (by omega), (h1 r hr).1] at hj
    omega
theorem gi_c0 (c0 c1 : Nat × List Value) (t : rk_S) (n k : Nat) : gi (c1 :: t) (n + 1) k = gi (c0 :: t) (n + 1) k := rfl
set_option maxRecDepth 100000 in
theorem lw_K0 : (List.range 10).all (fun r => decide (gi rk_HM 15 r = 0) && (decide (gi rk_HM 16 r = 0) && decide (gi rk_HM 17 r = 0))) = true := by decide +kernel
set_option maxRecDepth 100000 in
theorem lw_K25 : gi rk_HM 2 5 = 0 := by decide +kernel
theorem K1_0 (c0 : Nat × List Value) : K1 (c0 :: rk_HM.tail) := by
  have e : ∀ b k, 0 < b → gi (c0 :: rk_HM.tail) b k = gi rk_HM b k := by
    intro b k hb
    cases b with
    | zero => omega
    | succ b => rw [lw_x]; exact gi_c0 rk_x c0 rk_HM.tail b k
  have h1 : ∀ r : Nat, r < 10 → gi rk_HM 15 r = 0 ∧ gi rk_HM 16 r = 0 ∧ gi rk_HM 17 r = 0 := by
    intro r hr
    have q := List.all_eq_true.mp lw_K0 r (List.mem_range.mpr hr)
    rw [Bool.and_eq_true, Bool.and_eq_true, decide_eq_true_eq, decide_eq_true_eq, decide_eq_true_eq] at q
    exact q
  have hX : ∀ r, r < 10 → ∀ c, ¬ cds (c0 :: rk_HM.tail) r c := by
    rintro r hr c ⟨i, i1, -⟩
    have hz : rk_iv (c0 :: rk_HM.tail) 14 r = 0 := by
      refine (lw_C3 c0).2.2.1 r hr ?_
      have h0 := lw_C0
      rw [← gi_iv, e 2 5 (by omega)]
      rw [show gi rk_HM 2 5 = 0 from lw_K25]
      exact Int.natCast_nonneg r
    rw [hz] at i1
    omega
  refine ⟨fun r hr k => ?_, fun cl hcl r hr b => ?_⟩
  · rw [e 17 r (by omega), (h1 r hr).2.2, bt_zero]
    exact ⟨fun z => (by cases z), fun z => absurd z.2 (hX r hr _)⟩
  · have : gi (c0 :: rk_HM.tail) cl r = 0 := by
      rw [e cl r (by omega)]
      rcases hcl with rfl | rfl
      · exact (h1 r hr).1
      · exact (h1 r hr).2.1
    rw [this, bt_zero]
    exact ⟨fun z => (by cases z), fun z => absurd z (may_none (hX r hr))⟩
set_option maxRecDepth 100000 in
theorem lw_K18 : gi rk_HM 1 8 = 0 := by decide +kernel
theorem lJa0 (c0 : Nat × List Value) : lJa (c0 :: rk_HM.tail) := by
  have e : gi (c0 :: rk_HM.tail) 1 8 = 0 := by
    rw [gi_c0 rk_x c0 rk_HM.tail 0 8, ← lw_x]
    exact lw_K18
  have e25 : rk_iv (c0 :: rk_HM.tail) 2 5 = 0 := by
    rw [← gi_iv, gi_c0 rk_x c0 rk_HM.tail 1 5, ← lw_x, lw_K25]
    rfl
  refine ⟨lw_C3 c0, K1_0 c0, fun r hr => ⟨fun z => ?_, fun _ => ?_⟩, fun r hr z => ?_⟩
  · rw [e25] at z
    omega
  · rw [e, bt_zero]
  · rw [e, bt_zero] at z
    cases z
theorem gr_c0 (c0 c1 : Nat × List Value) (t : rk_S) (n k : Nat) : gr (c1 :: t) (n + 1) k = gr (c0 :: t) (n + 1) k := rfl
set_option maxRecDepth 100000 in
theorem lw_Q0 : ((List.range 16).all (fun s => decide (gi rk_HM 19 s = gi rk_HM 320 s)) && (decide (gi rk_HM 18 1 = gi rk_HM 321 0) && (decide (gi rk_HM 118 11 = gi rk_HM 316 44) && (decide (gi rk_HM 20 1 = 0) && (decide (gi rk_HM 322 0 = 0) && decide (gi rk_HM 316 45 = 0)))))) = true := by decide +kernel
set_option maxRecDepth 100000 in
theorem lw_Q1 : (List.range 32).all (fun i => decide (gr rk_HM 21 i = 22 + 3 * i)) = true := by decide +kernel
theorem lJ0 (c0 : Nat × List Value) : lJ (c0 :: rk_HM.tail) := by
  have e : ∀ b k, 0 < b → gi (c0 :: rk_HM.tail) b k = gi rk_HM b k := by
    intro b k hb
    cases b with
    | zero => omega
    | succ b => rw [lw_x]; exact gi_c0 rk_x c0 rk_HM.tail b k
  have er : ∀ k, gr (c0 :: rk_HM.tail) 21 k = gr rk_HM 21 k := by
    intro k
    rw [lw_x]; exact gr_c0 rk_x c0 rk_HM.tail 20 k
  have q := lw_Q0
  simp only [Bool.and_eq_true, decide_eq_true_eq] at q
  obtain ⟨q1, q2, q3, q4, q5, q6⟩ := q
  have r1 : ∀ i, i < 32 → gr (c0 :: rk_HM.tail) 21 i = 22 + 3 * i := by
    intro i hi
    have z := List.all_eq_true.mp lw_Q1 i (List.mem_range.mpr hi)
    rw [decide_eq_true_eq] at z
    rw [er, z]
  refine ⟨lJa0 c0, ⟨fun s hs => ?_, ?_, ?_⟩, ⟨⟨0, ?_, by omega, fun i hi => by omega⟩, fun i hi => ⟨i, hi, r1 i hi⟩, fun i j hi hj z => ?_⟩, VM_0 ?_, ⟨?_, fun k hk z => ?_⟩⟩
  · have z := List.all_eq_true.mp q1 s (List.mem_range.mpr hs)
    rw [decide_eq_true_eq] at z
    rw [e 19 s (by omega), e 320 s (by omega), z]
  · rw [e 18 1 (by omega), e 321 0 (by omega), q2]
  · rw [e 118 11 (by omega), e 316 44 (by omega), q3]
  · rw [e 20 1 (by omega), q4]; rfl
  · rw [r1 i hi, r1 j hj] at z
    omega
  · rw [e 322 0 (by omega), q5]; rfl
  · rw [e 316 45 (by omega), q6]
    exact ⟨by decide, by decide⟩
  · rw [e 316 45 (by omega), q6] at z
    exact absurd z (by show ¬ ((k : Int) < 0); omega)
theorem rk_pure {L : Nat} (hL : L ≤ 2560) (xs : Nat → Int32) : ∃ (n : Nat) (hF : rk_S), rk_ex n 2000 rm_L_law 0 [(0, .ref 0)] [] [rk_scr L xs] = some (some (.int 1), hF) ∧ hF.length ≤ 600000 ∧ rk_sz hF ≤ 7302250 := by
  have hI := rk_Iv_HM
  rw [lw_x] at hI
  have hl := rk_HX_l.2.1
  rw [lw_x, List.length_cons] at hl
  have hB : lB L xs (rk_scr L xs :: rk_HM.tail) := ⟨rfl, rk_Iv_c0 hI, by rw [List.length_cons]; exact hl, rfl⟩
  have hC := lJ0 (rk_scr L xs)
  obtain ⟨o, he, h1, h2, h3⟩ := lw_loop hL xs L 0 (Int32.ofInt 0) _ rfl (by omega) (by omega) hB hC
  obtain ⟨n, hn⟩ := lw_made _ (o := o) he
  obtain ⟨v, hF⟩ := o
  dsimp only at h1 h2 h3
  subst h1
  exact ⟨n, hF, hn, by omega, by rw [h3]; exact lw_sz hL xs⟩
theorem whole_start {p : Program} {e : Env} {s : State} {m : MethodId} {below : List Frame} {meth : Method} {c : Code} (l : Launch) {b L : Nat} {xs : Nat → Int32} (hL : L ≤ 2560) (C0 : lw_At p s m meth c b L xs) : W p l e room_1 s m #[Value.ref b] below meth c s.heap [] 0 0 (lw_Z below #[Value.ref b] s) (entryFrame m ([Value.ref b] : List Value).toArray 4) := by
  obtain ⟨n, hF, h1, h2, h3⟩ := rk_pure hL xs
  exact rk_start l C0 h1 h2 h3
