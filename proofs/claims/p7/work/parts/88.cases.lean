/-! the law's cases, over what both sides share (laid by wip/gen/lawx8.py) -/
set_option maxRecDepth 100000 in
set_option maxHeartbeats 4000000 in
theorem lw_c0 {L : Nat} {xs : Nat → Int32} {i : Int32} {h : rk_S} {m : Nat} {Q : Option Value → rk_S → Prop} (hB : lB L xs h) (hC : lJ h) (hm : i.toInt = m) (hb : m + 5 ≤ L) (hL : L ≤ 2560) (next : ∀ h', lB L xs h' → lJ h' → rk_wp 2000 rm_L_law 694 (lw_lv i) [] h' Q) : rk_wp 2000 rm_L_law 128 (lw_lv i) [] h Q := by
  obtain ⟨n1, t1, hT1⟩ := lw_t1
  obtain ⟨n2, t2, hT2⟩ := lw_t316
  refine wp_stp (ix := (.aload_n 1, 1)) (t := (129, lw_lv i, [.ref 1], h)) rfl rfl ?_
  refine lw_call2 (D := 1999) (r := []) (Q' := rX10 h) (av := []) (a := 1) hB (pc := 129) rfl rfl rfl (by decide) hT1 rfl rfl (fun v hv => absurd hv List.not_mem_nil) (fun v hv => absurd hv List.not_mem_nil) (by decide) (by decide) (by decide) (routX_10 (by decide) hB) (fun v1 h1 hB1 hp1 => ?_)
  obtain ⟨y1, rfl, -⟩ := id hp1
  refine wp_stp (ix := (.pop, 1)) (t := (133, lw_lv i, [], h1)) rfl rfl ?_
  refine wp_stp (ix := (.aload_n 2, 1)) (t := (134, lw_lv i, [.ref 316], h1)) rfl rfl ?_
  refine lw_call2 (D := 1999) (r := []) (Q' := rM10 h1) (av := []) (a := 316) hB1 (pc := 134) rfl rfl rfl (by decide) hT2 rfl rfl (fun v hv => absurd hv List.not_mem_nil) (fun v hv => absurd hv List.not_mem_nil) (by decide) (by decide) (by decide) (routM_10 (by decide) hB1) (fun v2 h2 hB2 hp2 => ?_)
  obtain ⟨y2, rfl, -⟩ := id hp2
  obtain ⟨z1, z2, ez1, ez2, exx, hC2⟩ := rout10_pair hB.2.1 hC hp1 hp2
  cases ez1
  cases ez2
  refine wp_stp (ix := (.pop, 1)) (t := (138, lw_lv i, [], h2)) rfl rfl ?_
  exact wp_stp (ix := (.goto 556, 3)) (t := (694, lw_lv i, [], h2)) rfl rfl (next h2 hB2 hC2)
set_option maxRecDepth 100000 in
set_option maxHeartbeats 4000000 in
theorem lw_c1 {L : Nat} {xs : Nat → Int32} {i : Int32} {h : rk_S} {m : Nat} {Q : Option Value → rk_S → Prop} (hB : lB L xs h) (hC : lJ h) (hm : i.toInt = m) (hb : m + 5 ≤ L) (hL : L ≤ 2560) (next : ∀ h', lB L xs h' → lJ h' → rk_wp 2000 rm_L_law 694 (lw_lv i) [] h' Q) : rk_wp 2000 rm_L_law 141 (lw_lv i) [] h Q := by
  obtain ⟨n1, t1, hT1⟩ := lw_t1
  obtain ⟨n2, t2, hT2⟩ := lw_t316
  refine wp_stp (ix := (.aload_n 1, 1)) (t := (142, lw_lv i, [.ref 1], h)) rfl rfl ?_
  refine lw_arg 1 hB hm (k := m + 1) rfl (by omega) (by omega) (by omega) hL rfl rfl rfl rfl rfl ?_
  refine lw_arg 2 hB hm (k := m + 2) rfl (by omega) (by omega) (by omega) hL rfl rfl rfl rfl rfl ?_
  refine lw_call2 (D := 1999) (r := []) (Q' := cX10 h (xs (m + 1)).toInt (xs (m + 2)).toInt) (av := [.int (xs (m + 1)), .int (xs (m + 2))]) (a := 1) hB (pc := 152) rfl rfl rfl (by decide) hT1 rfl rfl (fun v hv => by simp only [List.mem_cons, List.not_mem_nil, or_false] at hv; rcases hv with rfl | rfl <;> rfl) (fun v hv => absurd hv List.not_mem_nil) (by decide) (by decide) (by decide) (codeX_10 (by decide) hB hC _ _) (fun v1 h1 hB1 hp1 => ?_)
  obtain ⟨y1, rfl, -⟩ := id hp1
  refine wp_stp (ix := (.pop, 1)) (t := (156, lw_lv i, [], h1)) rfl rfl ?_
  refine wp_stp (ix := (.aload_n 2, 1)) (t := (157, lw_lv i, [.ref 316], h1)) rfl rfl ?_
  refine lw_arg 1 hB1 hm (k := m + 1) rfl (by omega) (by omega) (by omega) hL rfl rfl rfl rfl rfl ?_
  refine lw_arg 2 hB1 hm (k := m + 2) rfl (by omega) (by omega) (by omega) hL rfl rfl rfl rfl rfl ?_
  refine lw_call2 (D := 1999) (r := []) (Q' := cM10 h1 (xs (m + 1)).toInt (xs (m + 2)).toInt) (av := [.int (xs (m + 1)), .int (xs (m + 2))]) (a := 316) hB1 (pc := 167) rfl rfl rfl (by decide) hT2 rfl rfl (fun v hv => by simp only [List.mem_cons, List.not_mem_nil, or_false] at hv; rcases hv with rfl | rfl <;> rfl) (fun v hv => absurd hv List.not_mem_nil) (by decide) (by decide) (by decide) (codeM_10 (by decide) hB1 (code10_mid hB.2.1 hC hp1) _ _) (fun v2 h2 hB2 hp2 => ?_)
  obtain ⟨y2, rfl, -⟩ := id hp2
  obtain ⟨z1, z2, ez1, ez2, exx, hC2⟩ := code10_pair hB.2.1 hC hp1 hp2
  cases ez1
  cases ez2
  refine wp_stp (ix := (.pop, 1)) (t := (171, lw_lv i, [], h2)) rfl rfl ?_
  exact wp_stp (ix := (.goto 523, 3)) (t := (694, lw_lv i, [], h2)) rfl rfl (next h2 hB2 hC2)
set_option maxRecDepth 100000 in
set_option maxHeartbeats 4000000 in
theorem lw_c2 {L : Nat} {xs : Nat → Int32} {i : Int32} {h : rk_S} {m : Nat} {Q : Option Value → rk_S → Prop} (hB : lB L xs h) (hC : lJ h) (hm : i.toInt = m) (hb : m + 5 ≤ L) (hL : L ≤ 2560) (next : ∀ h', lB L xs h' → lJ h' → rk_wp 2000 rm_L_law 694 (lw_lv i) [] h' Q) : rk_wp 2000 rm_L_law 174 (lw_lv i) [] h Q := by
  obtain ⟨n1, t1, hT1⟩ := lw_t1
  obtain ⟨n2, t2, hT2⟩ := lw_t316
  refine wp_stp (ix := (.aload_n 1, 1)) (t := (175, lw_lv i, [.ref 1], h)) rfl rfl ?_
  refine lw_arg 1 hB hm (k := m + 1) rfl (by omega) (by omega) (by omega) hL rfl rfl rfl rfl rfl ?_
  refine lw_arg 2 hB hm (k := m + 2) rfl (by omega) (by omega) (by omega) hL rfl rfl rfl rfl rfl ?_
  refine lw_sideJ (D := 1999) (av := [.int (xs (m + 1)), .int (xs (m + 2))]) (a := 1) k_65t hB hC (pc := 185) rfl rfl rfl (by decide) hT1 rfl rfl (fun v hv => by simp only [List.mem_cons, List.not_mem_nil, or_false] at hv; rcases hv with rfl | rfl <;> rfl) (by decide) (by decide) (by decide) (fun b k hb z => by have := lw10_E z; unfold lkeep at hb; omega) rfl ⟨List.mem_cons_self, xany_ok _, xany_ok _, trivial⟩ (fun y1 h1 hB1 hC1 => ?_)
  refine wp_stp (ix := (.pop, 1)) (t := (189, lw_lv i, [], h1)) rfl rfl ?_
  refine wp_stp (ix := (.aload_n 2, 1)) (t := (190, lw_lv i, [.ref 316], h1)) rfl rfl ?_
  refine lw_arg 1 hB1 hm (k := m + 1) rfl (by omega) (by omega) (by omega) hL rfl rfl rfl rfl rfl ?_
  refine lw_arg 2 hB1 hm (k := m + 2) rfl (by omega) (by omega) (by omega) hL rfl rfl rfl rfl rfl ?_
  refine lw_sideJ (D := 1999) (av := [.int (xs (m + 1)), .int (xs (m + 2))]) (a := 316) k_94t hB1 hC1 (pc := 200) rfl rfl rfl (by decide) hT2 rfl rfl (fun v hv => by simp only [List.mem_cons, List.not_mem_nil, or_false] at hv; rcases hv with rfl | rfl <;> rfl) (by decide) (by decide) (by decide) (fun b k hb z => by have := lw10_E z; unfold lkeep at hb; omega) rfl ⟨List.mem_cons_self, xany_ok _, xany_ok _, trivial⟩ (fun y2 h2 hB2 hC2 => ?_)
  refine wp_stp (ix := (.pop, 1)) (t := (204, lw_lv i, [], h2)) rfl rfl ?_
  exact wp_stp (ix := (.goto 490, 3)) (t := (694, lw_lv i, [], h2)) rfl rfl (next h2 hB2 hC2)
set_option maxRecDepth 100000 in
set_option maxHeartbeats 4000000 in
theorem lw_c3 {L : Nat} {xs : Nat → Int32} {i : Int32} {h : rk_S} {m : Nat} {Q : Option Value → rk_S → Prop} (hB : lB L xs h) (hC : lJ h) (hm : i.toInt = m) (hb : m + 5 ≤ L) (hL : L ≤ 2560) (next : ∀ h', lB L xs h' → lJ h' → rk_wp 2000 rm_L_law 694 (lw_lv i) [] h' Q) : rk_wp 2000 rm_L_law 207 (lw_lv i) [] h Q := by
  obtain ⟨n1, t1, hT1⟩ := lw_t1
  obtain ⟨n2, t2, hT2⟩ := lw_t316
  refine wp_stp (ix := (.aload_n 1, 1)) (t := (208, lw_lv i, [.ref 1], h)) rfl rfl ?_
  refine lw_arg 1 hB hm (k := m + 1) rfl (by omega) (by omega) (by omega) hL rfl rfl rfl rfl rfl ?_
  refine lw_arg 2 hB hm (k := m + 2) rfl (by omega) (by omega) (by omega) hL rfl rfl rfl rfl rfl ?_
  refine lw_call2 (D := 1999) (r := []) (Q' := sX10 19 h (xs (m + 1)).toInt (xs (m + 2))) (av := [.int (xs (m + 1)), .int (xs (m + 2))]) (a := 1) hB (pc := 218) rfl rfl rfl (by decide) hT1 rfl rfl (fun v hv => by simp only [List.mem_cons, List.not_mem_nil, or_false] at hv; rcases hv with rfl | rfl <;> rfl) (fun v hv => absurd hv List.not_mem_nil) (by decide) (by decide) (by decide) (storX_10 (by decide) hB _ _) (fun v1 h1 hB1 hp1 => ?_)
  obtain ⟨y1, rfl, -⟩ := id hp1
  refine wp_stp (ix := (.pop, 1)) (t := (222, lw_lv i, [], h1)) rfl rfl ?_
  refine wp_stp (ix := (.aload_n 2, 1)) (t := (223, lw_lv i, [.ref 316], h1)) rfl rfl ?_
  refine lw_arg 1 hB1 hm (k := m + 1) rfl (by omega) (by omega) (by omega) hL rfl rfl rfl rfl rfl ?_
  refine lw_arg 2 hB1 hm (k := m + 2) rfl (by omega) (by omega) (by omega) hL rfl rfl rfl rfl rfl ?_
  refine lw_call2 (D := 1999) (r := []) (Q' := sX10 320 h1 (xs (m + 1)).toInt (xs (m + 2))) (av := [.int (xs (m + 1)), .int (xs (m + 2))]) (a := 316) hB1 (pc := 233) rfl rfl rfl (by decide) hT2 rfl rfl (fun v hv => by simp only [List.mem_cons, List.not_mem_nil, or_false] at hv; rcases hv with rfl | rfl <;> rfl) (fun v hv => absurd hv List.not_mem_nil) (by decide) (by decide) (by decide) (storM_10 (by decide) hB1 _ _) (fun v2 h2 hB2 hp2 => ?_)
  obtain ⟨y2, rfl, -⟩ := id hp2
  obtain ⟨z1, z2, ez1, ez2, exx, hC2⟩ := stor_pair hB hB1 hC hp1 hp2
  cases ez1
  cases ez2
  refine wp_stp (ix := (.pop, 1)) (t := (237, lw_lv i, [], h2)) rfl rfl ?_
  exact wp_stp (ix := (.goto 457, 3)) (t := (694, lw_lv i, [], h2)) rfl rfl (next h2 hB2 hC2)
set_option maxRecDepth 100000 in
set_option maxHeartbeats 4000000 in
theorem lw_c4 {L : Nat} {xs : Nat → Int32} {i : Int32} {h : rk_S} {m : Nat} {Q : Option Value → rk_S → Prop} (hB : lB L xs h) (hC : lJ h) (hm : i.toInt = m) (hb : m + 5 ≤ L) (hL : L ≤ 2560) (next : ∀ h', lB L xs h' → lJ h' → rk_wp 2000 rm_L_law 694 (lw_lv i) [] h' Q) : rk_wp 2000 rm_L_law 240 (lw_lv i) [] h Q := by
  obtain ⟨n1, t1, hT1⟩ := lw_t1
  obtain ⟨n2, t2, hT2⟩ := lw_t316
  refine wp_stp (ix := (.aload_n 1, 1)) (t := (241, lw_lv i, [.ref 1], h)) rfl rfl ?_
  refine lw_arg 1 hB hm (k := m + 1) rfl (by omega) (by omega) (by omega) hL rfl rfl rfl rfl rfl ?_
  refine lw_call2 (D := 1999) (r := []) (Q' := heX 19 h (xs (m + 1)).toInt) (av := [.int (xs (m + 1))]) (a := 1) hB (pc := 246) rfl rfl rfl (by decide) hT1 rfl rfl (fun v hv => by simp only [List.mem_cons, List.not_mem_nil, or_false] at hv; rcases hv with rfl <;> rfl) (fun v hv => absurd hv List.not_mem_nil) (by decide) (by decide) (by decide) (heldX_10 (by decide) hB _) (fun v1 h1 hB1 hp1 => ?_)
  obtain ⟨y1, rfl, -⟩ := id hp1
  refine wp_stp (ix := (.pop, 1)) (t := (250, lw_lv i, [], h1)) rfl rfl ?_
  refine wp_stp (ix := (.aload_n 2, 1)) (t := (251, lw_lv i, [.ref 316], h1)) rfl rfl ?_
  refine lw_arg 1 hB1 hm (k := m + 1) rfl (by omega) (by omega) (by omega) hL rfl rfl rfl rfl rfl ?_
  refine lw_call2 (D := 1999) (r := []) (Q' := heX 320 h1 (xs (m + 1)).toInt) (av := [.int (xs (m + 1))]) (a := 316) hB1 (pc := 256) rfl rfl rfl (by decide) hT2 rfl rfl (fun v hv => by simp only [List.mem_cons, List.not_mem_nil, or_false] at hv; rcases hv with rfl <;> rfl) (fun v hv => absurd hv List.not_mem_nil) (by decide) (by decide) (by decide) (heldM_10 (by decide) hB1 _) (fun v2 h2 hB2 hp2 => ?_)
  obtain ⟨y2, rfl, -⟩ := id hp2
  obtain ⟨z1, z2, ez1, ez2, exx, hC2⟩ := held_pair hC hp1 hp2
  cases ez1
  cases ez2
  refine wp_stp (ix := (.pop, 1)) (t := (260, lw_lv i, [], h2)) rfl rfl ?_
  exact wp_stp (ix := (.goto 434, 3)) (t := (694, lw_lv i, [], h2)) rfl rfl (next h2 hB2 hC2)
set_option maxRecDepth 100000 in
set_option maxHeartbeats 4000000 in
theorem lw_c5 {L : Nat} {xs : Nat → Int32} {i : Int32} {h : rk_S} {m : Nat} {Q : Option Value → rk_S → Prop} (hB : lB L xs h) (hC : lJ h) (hm : i.toInt = m) (hb : m + 5 ≤ L) (hL : L ≤ 2560) (next : ∀ h', lB L xs h' → lJ h' → rk_wp 2000 rm_L_law 694 (lw_lv i) [] h' Q) : rk_wp 2000 rm_L_law 263 (lw_lv i) [] h Q := by
  obtain ⟨n1, t1, hT1⟩ := lw_t1
  obtain ⟨n2, t2, hT2⟩ := lw_t316
  refine wp_stp (ix := (.aload_n 1, 1)) (t := (264, lw_lv i, [.ref 1], h)) rfl rfl ?_
  refine lw_arg 1 hB hm (k := m + 1) rfl (by omega) (by omega) (by omega) hL rfl rfl rfl rfl rfl ?_
  refine lw_call2 (D := 1999) (r := []) (Q' := loX 18 1 h (xs (m + 1))) (av := [.int (xs (m + 1))]) (a := 1) hB (pc := 269) rfl rfl rfl (by decide) hT1 rfl rfl (fun v hv => by simp only [List.mem_cons, List.not_mem_nil, or_false] at hv; rcases hv with rfl <;> rfl) (fun v hv => absurd hv List.not_mem_nil) (by decide) (by decide) (by decide) (lotX_10 (by decide) hB _) (fun v1 h1 hB1 hp1 => ?_)
  obtain ⟨y1, rfl, -⟩ := id hp1
  refine wp_stp (ix := (.aload_n 2, 1)) (t := (273, lw_lv i, [.ref 316, .int y1], h1)) rfl rfl ?_
  refine lw_arg 1 hB1 hm (k := m + 1) rfl (by omega) (by omega) (by omega) hL rfl rfl rfl rfl rfl ?_
  refine lw_call2 (D := 1999) (r := [.int y1]) (Q' := loX 321 0 h1 (xs (m + 1))) (av := [.int (xs (m + 1))]) (a := 316) hB1 (pc := 278) rfl rfl rfl (by decide) hT2 rfl rfl (fun v hv => by simp only [List.mem_cons, List.not_mem_nil, or_false] at hv; rcases hv with rfl <;> rfl) (fun v hv => by simp only [List.mem_cons, List.not_mem_nil, or_false] at hv; rcases hv with rfl <;> rfl) (by show (1 : Nat) ≤ 8; decide) (by decide) (by decide) (lotM_10 (by decide) hB1 _) (fun v2 h2 hB2 hp2 => ?_)
  obtain ⟨y2, rfl, -⟩ := id hp2
  obtain ⟨z1, z2, ez1, ez2, exx, hC2⟩ := lot_pair hB hB1 hC hp1 hp2
  cases ez1
  cases ez2
  refine wp_if2 (tg := 694) rfl rfl (fun _ => next h2 hB2 hC2) (fun c => ?_)
  exact absurd (Int32.toInt_inj.mp (show y1.toInt = y2.toInt by omega)) (fun e => of_decide_eq_false (p := y1.toInt = y2.toInt) c (by rw [e]))
set_option maxRecDepth 100000 in
set_option maxHeartbeats 4000000 in
theorem lw_c6 {L : Nat} {xs : Nat → Int32} {i : Int32} {h : rk_S} {m : Nat} {Q : Option Value → rk_S → Prop} (hB : lB L xs h) (hC : lJ h) (hm : i.toInt = m) (hb : m + 5 ≤ L) (hL : L ≤ 2560) (next : ∀ h', lB L xs h' → lJ h' → rk_wp 2000 rm_L_law 694 (lw_lv i) [] h' Q) : rk_wp 2000 rm_L_law 286 (lw_lv i) [] h Q := by
  obtain ⟨n1, t1, hT1⟩ := lw_t1
  obtain ⟨n2, t2, hT2⟩ := lw_t316
  refine wp_stp (ix := (.aload_n 1, 1)) (t := (287, lw_lv i, [.ref 1], h)) rfl rfl ?_
  refine lw_arg 1 hB hm (k := m + 1) rfl (by omega) (by omega) (by omega) hL rfl rfl rfl rfl rfl ?_
  refine lw_sideJ (D := 1999) (av := [.int (xs (m + 1))]) (a := 1) k_69t hB hC (pc := 292) rfl rfl rfl (by decide) hT1 rfl rfl (fun v hv => by simp only [List.mem_cons, List.not_mem_nil, or_false] at hv; rcases hv with rfl <;> rfl) (by decide) (by decide) (by decide) (fun b k hb z => by have := lw10_E z; unfold lkeep at hb; omega) rfl ⟨List.mem_cons_self, xany_ok _, trivial⟩ (fun y1 h1 hB1 hC1 => ?_)
  refine wp_stp (ix := (.pop, 1)) (t := (296, lw_lv i, [], h1)) rfl rfl ?_
  refine wp_stp (ix := (.aload_n 2, 1)) (t := (297, lw_lv i, [.ref 316], h1)) rfl rfl ?_
  refine lw_arg 1 hB1 hm (k := m + 1) rfl (by omega) (by omega) (by omega) hL rfl rfl rfl rfl rfl ?_
  refine lw_sideJ (D := 1999) (av := [.int (xs (m + 1))]) (a := 316) k_100t hB1 hC1 (pc := 302) rfl rfl rfl (by decide) hT2 rfl rfl (fun v hv => by simp only [List.mem_cons, List.not_mem_nil, or_false] at hv; rcases hv with rfl <;> rfl) (by decide) (by decide) (by decide) (fun b k hb z => by have := lw10_E z; unfold lkeep at hb; omega) rfl ⟨List.mem_cons_self, xany_ok _, trivial⟩ (fun y2 h2 hB2 hC2 => ?_)
  refine wp_stp (ix := (.pop, 1)) (t := (306, lw_lv i, [], h2)) rfl rfl ?_
  exact wp_stp (ix := (.goto 388, 3)) (t := (694, lw_lv i, [], h2)) rfl rfl (next h2 hB2 hC2)
set_option maxRecDepth 100000 in
set_option maxHeartbeats 4000000 in
theorem lw_c7 {L : Nat} {xs : Nat → Int32} {i : Int32} {h : rk_S} {m : Nat} {Q : Option Value → rk_S → Prop} (hB : lB L xs h) (hC : lJ h) (hm : i.toInt = m) (hb : m + 5 ≤ L) (hL : L ≤ 2560) (next : ∀ h', lB L xs h' → lJ h' → rk_wp 2000 rm_L_law 694 (lw_lv i) [] h' Q) : rk_wp 2000 rm_L_law 309 (lw_lv i) [] h Q := by
  obtain ⟨n1, t1, hT1⟩ := lw_t1
  obtain ⟨n2, t2, hT2⟩ := lw_t316
  refine wp_stp (ix := (.aload_n 1, 1)) (t := (310, lw_lv i, [.ref 1], h)) rfl rfl ?_
  refine lw_arg 1 hB hm (k := m + 1) rfl (by omega) (by omega) (by omega) hL rfl rfl rfl rfl rfl ?_
  refine lw_sideJ (D := 1999) (av := [.int (xs (m + 1))]) (a := 1) k_70t hB hC (pc := 315) rfl rfl rfl (by decide) hT1 rfl rfl (fun v hv => by simp only [List.mem_cons, List.not_mem_nil, or_false] at hv; rcases hv with rfl <;> rfl) (by decide) (by decide) (by decide) (fun b k hb z => by have := lw10_E z; unfold lkeep at hb; omega) rfl ⟨List.mem_cons_self, xany_ok _, trivial⟩ (fun y1 h1 hB1 hC1 => ?_)
  refine wp_stp (ix := (.pop, 1)) (t := (319, lw_lv i, [], h1)) rfl rfl ?_
  refine wp_stp (ix := (.aload_n 2, 1)) (t := (320, lw_lv i, [.ref 316], h1)) rfl rfl ?_
  refine lw_arg 1 hB1 hm (k := m + 1) rfl (by omega) (by omega) (by omega) hL rfl rfl rfl rfl rfl ?_
  refine lw_sideJ (D := 1999) (av := [.int (xs (m + 1))]) (a := 316) k_101t hB1 hC1 (pc := 325) rfl rfl rfl (by decide) hT2 rfl rfl (fun v hv => by simp only [List.mem_cons, List.not_mem_nil, or_false] at hv; rcases hv with rfl <;> rfl) (by decide) (by decide) (by decide) (fun b k hb z => by have := lw10_E z; unfold lkeep at hb; omega) rfl ⟨List.mem_cons_self, xany_ok _, trivial⟩ (fun y2 h2 hB2 hC2 => ?_)
  refine wp_stp (ix := (.pop, 1)) (t := (329, lw_lv i, [], h2)) rfl rfl ?_
  exact wp_stp (ix := (.goto 365, 3)) (t := (694, lw_lv i, [], h2)) rfl rfl (next h2 hB2 hC2)
set_option maxRecDepth 100000 in
set_option maxHeartbeats 4000000 in
theorem lw_c8 {L : Nat} {xs : Nat → Int32} {i : Int32} {h : rk_S} {m : Nat} {Q : Option Value → rk_S → Prop} (hB : lB L xs h) (hC : lJ h) (hm : i.toInt = m) (hb : m + 5 ≤ L) (hL : L ≤ 2560) (next : ∀ h', lB L xs h' → lJ h' → rk_wp 2000 rm_L_law 694 (lw_lv i) [] h' Q) : rk_wp 2000 rm_L_law 332 (lw_lv i) [] h Q := by
  obtain ⟨n1, t1, hT1⟩ := lw_t1
  obtain ⟨n2, t2, hT2⟩ := lw_t316
  refine wp_stp (ix := (.aload_n 1, 1)) (t := (333, lw_lv i, [.ref 1], h)) rfl rfl ?_
  refine lw_arg 1 hB hm (k := m + 1) rfl (by omega) (by omega) (by omega) hL rfl rfl rfl rfl rfl ?_
  refine lw_arg 2 hB hm (k := m + 2) rfl (by omega) (by omega) (by omega) hL rfl rfl rfl rfl rfl ?_
  refine lw_arg 3 hB hm (k := m + 3) rfl (by omega) (by omega) (by omega) hL rfl rfl rfl rfl rfl ?_
  refine lw_arg 4 hB hm (k := m + 4) rfl (by omega) (by omega) (by omega) hL rfl rfl rfl rfl rfl ?_
  refine lw_call2 (D := 1999) (r := []) (Q' := ruX h (xs (m + 1)) (xs (m + 2)) (xs (m + 3)) (xs (m + 4))) (av := [.int (xs (m + 1)), .int (xs (m + 2)), .int (xs (m + 3)), .int (xs (m + 4))]) (a := 1) hB (pc := 353) rfl rfl rfl (by decide) hT1 rfl rfl (fun v hv => by simp only [List.mem_cons, List.not_mem_nil, or_false] at hv; rcases hv with rfl | rfl | rfl | rfl <;> rfl) (fun v hv => absurd hv List.not_mem_nil) (by decide) (by decide) (by decide) (runX_10 (by decide) hB hC _ _ _ _) (fun v1 h1 hB1 hp1 => ?_)
  obtain ⟨y1, rfl, -⟩ := id hp1
  have hC1 := run_mid hC hp1
  refine wp_stp (ix := (.pop, 1)) (t := (357, lw_lv i, [], h1)) rfl rfl ?_
  refine wp_stp (ix := (.aload_n 2, 1)) (t := (358, lw_lv i, [.ref 316], h1)) rfl rfl ?_
  refine lw_arg 1 hB1 hm (k := m + 1) rfl (by omega) (by omega) (by omega) hL rfl rfl rfl rfl rfl ?_
  refine lw_arg 2 hB1 hm (k := m + 2) rfl (by omega) (by omega) (by omega) hL rfl rfl rfl rfl rfl ?_
  refine lw_arg 3 hB1 hm (k := m + 3) rfl (by omega) (by omega) (by omega) hL rfl rfl rfl rfl rfl ?_
  refine lw_arg 4 hB1 hm (k := m + 4) rfl (by omega) (by omega) (by omega) hL rfl rfl rfl rfl rfl ?_
  refine lw_call2 (D := 1999) (r := []) (Q' := ruM h1 (xs (m + 1)) (xs (m + 2)) (xs (m + 3)) (xs (m + 4))) (av := [.int (xs (m + 1)), .int (xs (m + 2)), .int (xs (m + 3)), .int (xs (m + 4))]) (a := 316) hB1 (pc := 378) rfl rfl rfl (by decide) hT2 rfl rfl (fun v hv => by simp only [List.mem_cons, List.not_mem_nil, or_false] at hv; rcases hv with rfl | rfl | rfl | rfl <;> rfl) (fun v hv => absurd hv List.not_mem_nil) (by decide) (by decide) (by decide) (runM_10 (by decide) hB1 hC1 _ _ _ _) (fun v2 h2 hB2 hp2 => ?_)
  obtain ⟨y2, rfl, -⟩ := id hp2
  obtain ⟨z1, z2, ez1, ez2, exx, hC2⟩ := run_pair hC hp1 hp2
  cases ez1
  cases ez2
  refine wp_stp (ix := (.pop, 1)) (t := (382, lw_lv i, [], h2)) rfl rfl ?_
  exact wp_stp (ix := (.goto 312, 3)) (t := (694, lw_lv i, [], h2)) rfl rfl (next h2 hB2 hC2)
set_option maxRecDepth 100000 in
set_option maxHeartbeats 4000000 in
theorem lw_c9 {L : Nat} {xs : Nat → Int32} {i : Int32} {h : rk_S} {m : Nat} {Q : Option Value → rk_S → Prop} (hB : lB L xs h) (hC : lJ h) (hm : i.toInt = m) (hb : m + 5 ≤ L) (hL : L ≤ 2560) (next : ∀ h', lB L xs h' → lJ h' → rk_wp 2000 rm_L_law 694 (lw_lv i) [] h' Q) : rk_wp 2000 rm_L_law 385 (lw_lv i) [] h Q := by
  obtain ⟨n1, t1, hT1⟩ := lw_t1
  obtain ⟨n2, t2, hT2⟩ := lw_t316
  refine wp_stp (ix := (.aload_n 1, 1)) (t := (386, lw_lv i, [.ref 1], h)) rfl rfl ?_
  refine lw_call2 (D := 1999) (r := []) (Q' := anX 118 11 h) (av := []) (a := 1) hB (pc := 386) rfl rfl rfl (by decide) hT1 rfl rfl (fun v hv => absurd hv List.not_mem_nil) (fun v hv => absurd hv List.not_mem_nil) (by decide) (by decide) (by decide) (ansX_10 (by decide) hB) (fun v1 h1 hB1 hp1 => ?_)
  obtain ⟨y1, rfl, -⟩ := id hp1
  refine wp_stp (ix := (.pop, 1)) (t := (390, lw_lv i, [], h1)) rfl rfl ?_
  refine wp_stp (ix := (.aload_n 2, 1)) (t := (391, lw_lv i, [.ref 316], h1)) rfl rfl ?_
  refine lw_call2 (D := 1999) (r := []) (Q' := anX 316 44 h1) (av := []) (a := 316) hB1 (pc := 391) rfl rfl rfl (by decide) hT2 rfl rfl (fun v hv => absurd hv List.not_mem_nil) (fun v hv => absurd hv List.not_mem_nil) (by decide) (by decide) (by decide) (ansM_10 (by decide) hB1) (fun v2 h2 hB2 hp2 => ?_)
  obtain ⟨y2, rfl, -⟩ := id hp2
  obtain ⟨z1, z2, ez1, ez2, exx, hC2⟩ := ans_pair hC hp1 hp2
  cases ez1
  cases ez2
  refine wp_stp (ix := (.pop, 1)) (t := (395, lw_lv i, [], h2)) rfl rfl ?_
  exact wp_stp (ix := (.goto 299, 3)) (t := (694, lw_lv i, [], h2)) rfl rfl (next h2 hB2 hC2)
set_option maxRecDepth 100000 in
set_option maxHeartbeats 4000000 in
theorem lw_c10 {L : Nat} {xs : Nat → Int32} {i : Int32} {h : rk_S} {m : Nat} {Q : Option Value → rk_S → Prop} (hB : lB L xs h) (hC : lJ h) (hm : i.toInt = m) (hb : m + 5 ≤ L) (hL : L ≤ 2560) (next : ∀ h', lB L xs h' → lJ h' → rk_wp 2000 rm_L_law 694 (lw_lv i) [] h' Q) : rk_wp 2000 rm_L_law 398 (lw_lv i) [] h Q := by
  obtain ⟨n1, t1, hT1⟩ := lw_t1
  obtain ⟨n2, t2, hT2⟩ := lw_t316
  refine wp_stp (ix := (.aload_n 1, 1)) (t := (399, lw_lv i, [.ref 1], h)) rfl rfl ?_
  refine lw_arg 1 hB hm (k := m + 1) rfl (by omega) (by omega) (by omega) hL rfl rfl rfl rfl rfl ?_
  refine lw_sideJ (D := 1999) (av := [.int (xs (m + 1))]) (a := 1) k_73t hB hC (pc := 404) rfl rfl rfl (by decide) hT1 rfl rfl (fun v hv => by simp only [List.mem_cons, List.not_mem_nil, or_false] at hv; rcases hv with rfl <;> rfl) (by decide) (by decide) (by decide) (fun b k hb z => by have := lw10_E z; unfold lkeep at hb; omega) rfl ⟨List.mem_cons_self, xany_ok _, trivial⟩ (fun y1 h1 hB1 hC1 => ?_)
  refine wp_stp (ix := (.pop, 1)) (t := (408, lw_lv i, [], h1)) rfl rfl ?_
  refine wp_stp (ix := (.aload_n 2, 1)) (t := (409, lw_lv i, [.ref 316], h1)) rfl rfl ?_
  refine lw_arg 1 hB1 hm (k := m + 1) rfl (by omega) (by omega) (by omega) hL rfl rfl rfl rfl rfl ?_
  refine lw_sideJ (D := 1999) (av := [.int (xs (m + 1))]) (a := 316) k_122t hB1 hC1 (pc := 414) rfl rfl rfl (by decide) hT2 rfl rfl (fun v hv => by simp only [List.mem_cons, List.not_mem_nil, or_false] at hv; rcases hv with rfl <;> rfl) (by decide) (by decide) (by decide) (fun b k hb z => by have := lw10_E z; unfold lkeep at hb; omega) rfl ⟨List.mem_cons_self, xany_ok _, trivial⟩ (fun y2 h2 hB2 hC2 => ?_)
  refine wp_stp (ix := (.pop, 1)) (t := (418, lw_lv i, [], h2)) rfl rfl ?_
  exact wp_stp (ix := (.goto 276, 3)) (t := (694, lw_lv i, [], h2)) rfl rfl (next h2 hB2 hC2)
set_option maxRecDepth 100000 in
set_option maxHeartbeats 4000000 in
theorem lw_c11 {L : Nat} {xs : Nat → Int32} {i : Int32} {h : rk_S} {m : Nat} {Q : Option Value → rk_S → Prop} (hB : lB L xs h) (hC : lJ h) (hm : i.toInt = m) (hb : m + 5 ≤ L) (hL : L ≤ 2560) (next : ∀ h', lB L xs h' → lJ h' → rk_wp 2000 rm_L_law 694 (lw_lv i) [] h' Q) : rk_wp 2000 rm_L_law 421 (lw_lv i) [] h Q := by
  obtain ⟨n1, t1, hT1⟩ := lw_t1
  obtain ⟨n2, t2, hT2⟩ := lw_t316
  refine wp_stp (ix := (.aload_n 1, 1)) (t := (422, lw_lv i, [.ref 1], h)) rfl rfl ?_
  refine lw_arg 1 hB hm (k := m + 1) rfl (by omega) (by omega) (by omega) hL rfl rfl rfl rfl rfl ?_
  refine lw_arg 2 hB hm (k := m + 2) rfl (by omega) (by omega) (by omega) hL rfl rfl rfl rfl rfl ?_
  have hcall1 : ∀ z : Int32, xinB z.toInt [(0, 1)] → (z.toInt = 0 ↔ (xs (m + 2)).toInt = 0) → rk_wp 2000 rm_L_law 440 (lw_lv i) [.int z, .int (xs (m + 1)), .ref 1] h Q := by
    intro z hz hz0
    refine lw_call2 (D := 1999) (r := []) (Q' := kX10 h (xs (m + 1)).toInt z.toInt) (av := [.int (xs (m + 1)), .int z]) (a := 1) hB (pc := 440) rfl rfl rfl (by decide) hT1 rfl rfl (fun v hv => by simp only [List.mem_cons, List.not_mem_nil, or_false] at hv; rcases hv with rfl | rfl <;> rfl) (fun v hv => absurd hv List.not_mem_nil) (by decide) (by decide) (by decide) (keepX_10 (by decide) hB hC _ hz) (fun v1 h1 hB1 hp1 => ?_)
    obtain ⟨y1, rfl, -⟩ := id hp1
    have hC1 := keep10_mid hC hp1
    refine wp_stp (ix := (.pop, 1)) (t := (444, lw_lv i, [], h1)) rfl rfl ?_
    refine wp_stp (ix := (.aload_n 2, 1)) (t := (445, lw_lv i, [.ref 316], h1)) rfl rfl ?_
    refine lw_arg 1 hB1 hm (k := m + 1) rfl (by omega) (by omega) (by omega) hL rfl rfl rfl rfl rfl ?_
    refine lw_arg 2 hB1 hm (k := m + 2) rfl (by omega) (by omega) (by omega) hL rfl rfl rfl rfl rfl ?_
    have hcall316 : ∀ z' : Int32, xinB z'.toInt [(0, 1)] → (z'.toInt = 0 ↔ (xs (m + 2)).toInt = 0) → rk_wp 2000 rm_L_law 463 (lw_lv i) [.int z', .int (xs (m + 1)), .ref 316] h1 Q := by
      intro z' hz' hz'0
      refine lw_call2 (D := 1999) (r := []) (Q' := kM10 h1 (xs (m + 1)).toInt z'.toInt) (av := [.int (xs (m + 1)), .int z']) (a := 316) hB1 (pc := 463) rfl rfl rfl (by decide) hT2 rfl rfl (fun v hv => by simp only [List.mem_cons, List.not_mem_nil, or_false] at hv; rcases hv with rfl | rfl <;> rfl) (fun v hv => absurd hv List.not_mem_nil) (by decide) (by decide) (by decide) (keepM_10 (by decide) hB1 hC1 _ hz') (fun v2 h2 hB2 hp2 => ?_)
      obtain ⟨y2, rfl, -⟩ := id hp2
      obtain ⟨z1, z2, ez1, ez2, exx, hC2⟩ := keep10_pair hB.2.1 hC (x_01 hz) (x_01 hz') (hz0.trans hz'0.symm) hp1 hp2
      cases ez1
      cases ez2
      refine wp_stp (ix := (.pop, 1)) (t := (467, lw_lv i, [], h2)) rfl rfl ?_
      exact wp_stp (ix := (.goto 227, 3)) (t := (694, lw_lv i, [], h2)) rfl rfl (next h2 hB2 hC2)
    refine wp_if1 (tg := 462) rfl rfl (fun c0 => ?_) (fun c0 => ?_)
    · exact wp_stp (ix := (.iconst 0, 1)) (t := (463, lw_lv i, [.int (Int32.ofInt 0), .int (xs (m + 1)), .ref 316], h1)) rfl rfl (hcall316 _ (xin_1 (by decide) (by decide)) ⟨fun _ => of_decide_eq_true (p := (xs (m + 2)).toInt = 0) c0, fun _ => rfl⟩)
    · refine wp_stp (ix := (.iconst 1, 1)) (t := (459, lw_lv i, [.int (Int32.ofInt 1), .int (xs (m + 1)), .ref 316], h1)) rfl rfl ?_
      exact wp_stp (ix := (.goto 4, 3)) (t := (463, lw_lv i, [.int (Int32.ofInt 1), .int (xs (m + 1)), .ref 316], h1)) rfl rfl (hcall316 _ (xin_1 (by decide) (by decide)) ⟨fun z => absurd z (by decide), fun z => absurd z (of_decide_eq_false (p := (xs (m + 2)).toInt = 0) c0)⟩)
  refine wp_if1 (tg := 439) rfl rfl (fun c0 => ?_) (fun c0 => ?_)
  · exact wp_stp (ix := (.iconst 0, 1)) (t := (440, lw_lv i, [.int (Int32.ofInt 0), .int (xs (m + 1)), .ref 1], h)) rfl rfl (hcall1 _ (xin_1 (by decide) (by decide)) ⟨fun _ => of_decide_eq_true (p := (xs (m + 2)).toInt = 0) c0, fun _ => rfl⟩)
  · refine wp_stp (ix := (.iconst 1, 1)) (t := (436, lw_lv i, [.int (Int32.ofInt 1), .int (xs (m + 1)), .ref 1], h)) rfl rfl ?_
    exact wp_stp (ix := (.goto 4, 3)) (t := (440, lw_lv i, [.int (Int32.ofInt 1), .int (xs (m + 1)), .ref 1], h)) rfl rfl (hcall1 _ (xin_1 (by decide) (by decide)) ⟨fun z => absurd z (by decide), fun z => absurd z (of_decide_eq_false (p := (xs (m + 2)).toInt = 0) c0)⟩)
set_option maxRecDepth 100000 in
set_option maxHeartbeats 4000000 in
theorem lw_c12 {L : Nat} {xs : Nat → Int32} {i : Int32} {h : rk_S} {m : Nat} {Q : Option Value → rk_S → Prop} (hB : lB L xs h) (hC : lJ h) (hm : i.toInt = m) (hb : m + 5 ≤ L) (hL : L ≤ 2560) (next : ∀ h', lB L xs h' → lJ h' → rk_wp 2000 rm_L_law 694 (lw_lv i) [] h' Q) : rk_wp 2000 rm_L_law 470 (lw_lv i) [] h Q := by
  obtain ⟨n1, t1, hT1⟩ := lw_t1
  obtain ⟨n2, t2, hT2⟩ := lw_t316
  refine wp_stp (ix := (.aload_n 1, 1)) (t := (471, lw_lv i, [.ref 1], h)) rfl rfl ?_
  refine lw_arg 1 hB hm (k := m + 1) rfl (by omega) (by omega) (by omega) hL rfl rfl rfl rfl rfl ?_
  refine lw_arg 2 hB hm (k := m + 2) rfl (by omega) (by omega) (by omega) hL rfl rfl rfl rfl rfl ?_
  refine lw_call2 (D := 1999) (r := []) (Q' := kJ) (av := [.int (xs (m + 1)), .int (xs (m + 2))]) (a := 1) hB (pc := 481) rfl rfl rfl (by decide) hT1 rfl rfl (fun v hv => by simp only [List.mem_cons, List.not_mem_nil, or_false] at hv; rcases hv with rfl | rfl <;> rfl) (fun v hv => absurd hv List.not_mem_nil) (by decide) (by decide) (by decide) (roomX_10 (by decide) hB hC _ _) (fun v1 h1 hB1 hp1 => ?_)
  obtain ⟨y1, rfl, -⟩ := id hp1
  obtain ⟨-, -, hC1⟩ := hp1
  refine wp_stp (ix := (.pop, 1)) (t := (485, lw_lv i, [], h1)) rfl rfl ?_
  refine wp_stp (ix := (.aload_n 2, 1)) (t := (486, lw_lv i, [.ref 316], h1)) rfl rfl ?_
  refine lw_arg 1 hB1 hm (k := m + 1) rfl (by omega) (by omega) (by omega) hL rfl rfl rfl rfl rfl ?_
  refine lw_arg 2 hB1 hm (k := m + 2) rfl (by omega) (by omega) (by omega) hL rfl rfl rfl rfl rfl ?_
  refine lw_call2 (D := 1999) (r := []) (Q' := kJ) (av := [.int (xs (m + 1)), .int (xs (m + 2))]) (a := 316) hB1 (pc := 496) rfl rfl rfl (by decide) hT2 rfl rfl (fun v hv => by simp only [List.mem_cons, List.not_mem_nil, or_false] at hv; rcases hv with rfl | rfl <;> rfl) (fun v hv => absurd hv List.not_mem_nil) (by decide) (by decide) (by decide) (roomM_10 (by decide) hB1 hC1 _ _) (fun v2 h2 hB2 hp2 => ?_)
  obtain ⟨y2, rfl, -⟩ := id hp2
  obtain ⟨-, -, hC2⟩ := hp2
  refine wp_stp (ix := (.pop, 1)) (t := (500, lw_lv i, [], h2)) rfl rfl ?_
  exact wp_stp (ix := (.goto 194, 3)) (t := (694, lw_lv i, [], h2)) rfl rfl (next h2 hB2 hC2)
set_option maxRecDepth 100000 in
set_option maxHeartbeats 4000000 in
theorem lw_c13 {L : Nat} {xs : Nat → Int32} {i : Int32} {h : rk_S} {m : Nat} {Q : Option Value → rk_S → Prop} (hB : lB L xs h) (hC : lJ h) (hm : i.toInt = m) (hb : m + 5 ≤ L) (hL : L ≤ 2560) (next : ∀ h', lB L xs h' → lJ h' → rk_wp 2000 rm_L_law 694 (lw_lv i) [] h' Q) : rk_wp 2000 rm_L_law 503 (lw_lv i) [] h Q := by
  obtain ⟨n1, t1, hT1⟩ := lw_t1
  obtain ⟨n2, t2, hT2⟩ := lw_t316
  refine wp_stp (ix := (.aload_n 1, 1)) (t := (504, lw_lv i, [.ref 1], h)) rfl rfl ?_
  refine lw_call2 (D := 1999) (r := []) (Q' := kJ) (av := []) (a := 1) hB (pc := 504) rfl rfl rfl (by decide) hT1 rfl rfl (fun v hv => absurd hv List.not_mem_nil) (fun v hv => absurd hv List.not_mem_nil) (by decide) (by decide) (by decide) (forgX_10 (by decide) hB hC) (fun v1 h1 hB1 hp1 => ?_)
  obtain ⟨y1, rfl, -⟩ := id hp1
  obtain ⟨-, -, hC1⟩ := hp1
  refine wp_stp (ix := (.pop, 1)) (t := (508, lw_lv i, [], h1)) rfl rfl ?_
  refine wp_stp (ix := (.aload_n 2, 1)) (t := (509, lw_lv i, [.ref 316], h1)) rfl rfl ?_
  refine lw_call2 (D := 1999) (r := []) (Q' := kJ) (av := []) (a := 316) hB1 (pc := 509) rfl rfl rfl (by decide) hT2 rfl rfl (fun v hv => absurd hv List.not_mem_nil) (fun v hv => absurd hv List.not_mem_nil) (by decide) (by decide) (by decide) (forgM_10 (by decide) hB1 hC1) (fun v2 h2 hB2 hp2 => ?_)
  obtain ⟨y2, rfl, -⟩ := id hp2
  obtain ⟨-, -, hC2⟩ := hp2
  refine wp_stp (ix := (.pop, 1)) (t := (513, lw_lv i, [], h2)) rfl rfl ?_
  exact wp_stp (ix := (.goto 181, 3)) (t := (694, lw_lv i, [], h2)) rfl rfl (next h2 hB2 hC2)
set_option maxRecDepth 100000 in
set_option maxHeartbeats 4000000 in
theorem lw_c14 {L : Nat} {xs : Nat → Int32} {i : Int32} {h : rk_S} {m : Nat} {Q : Option Value → rk_S → Prop} (hB : lB L xs h) (hC : lJ h) (hm : i.toInt = m) (hb : m + 5 ≤ L) (hL : L ≤ 2560) (next : ∀ h', lB L xs h' → lJ h' → rk_wp 2000 rm_L_law 694 (lw_lv i) [] h' Q) : rk_wp 2000 rm_L_law 516 (lw_lv i) [] h Q := by
  obtain ⟨n1, t1, hT1⟩ := lw_t1
  obtain ⟨n2, t2, hT2⟩ := lw_t316
  refine wp_stp (ix := (.aload_n 1, 1)) (t := (517, lw_lv i, [.ref 1], h)) rfl rfl ?_
  refine lw_arg 1 hB hm (k := m + 1) rfl (by omega) (by omega) (by omega) hL rfl rfl rfl rfl rfl ?_
  refine lw_arg 2 hB hm (k := m + 2) rfl (by omega) (by omega) (by omega) hL rfl rfl rfl rfl rfl ?_
  refine lw_sideJ (D := 1999) (av := [.int (xs (m + 1)), .int (xs (m + 2))]) (a := 1) k_77t hB hC (pc := 527) rfl rfl rfl (by decide) hT1 rfl rfl (fun v hv => by simp only [List.mem_cons, List.not_mem_nil, or_false] at hv; rcases hv with rfl | rfl <;> rfl) (by decide) (by decide) (by decide) (fun b k hb z => by have := lw10_E z; unfold lkeep at hb; omega) rfl ⟨List.mem_cons_self, xany_ok _, xany_ok _, trivial⟩ (fun y1 h1 hB1 hC1 => ?_)
  refine wp_stp (ix := (.pop, 1)) (t := (531, lw_lv i, [], h1)) rfl rfl ?_
  refine wp_stp (ix := (.aload_n 2, 1)) (t := (532, lw_lv i, [.ref 316], h1)) rfl rfl ?_
  refine lw_arg 1 hB1 hm (k := m + 1) rfl (by omega) (by omega) (by omega) hL rfl rfl rfl rfl rfl ?_
  refine lw_arg 2 hB1 hm (k := m + 2) rfl (by omega) (by omega) (by omega) hL rfl rfl rfl rfl rfl ?_
  refine lw_sideJ (D := 1999) (av := [.int (xs (m + 1)), .int (xs (m + 2))]) (a := 316) k_126t hB1 hC1 (pc := 542) rfl rfl rfl (by decide) hT2 rfl rfl (fun v hv => by simp only [List.mem_cons, List.not_mem_nil, or_false] at hv; rcases hv with rfl | rfl <;> rfl) (by decide) (by decide) (by decide) (fun b k hb z => by have := lw10_21 z; unfold lkeep at hb; omega) rfl ⟨List.mem_cons_self, xany_ok _, xany_ok _, trivial⟩ (fun y2 h2 hB2 hC2 => ?_)
  refine wp_stp (ix := (.pop, 1)) (t := (546, lw_lv i, [], h2)) rfl rfl ?_
  exact wp_stp (ix := (.goto 148, 3)) (t := (694, lw_lv i, [], h2)) rfl rfl (next h2 hB2 hC2)
set_option maxRecDepth 100000 in
set_option maxHeartbeats 4000000 in
theorem lw_c15 {L : Nat} {xs : Nat → Int32} {i : Int32} {h : rk_S} {m : Nat} {Q : Option Value → rk_S → Prop} (hB : lB L xs h) (hC : lJ h) (hm : i.toInt = m) (hb : m + 5 ≤ L) (hL : L ≤ 2560) (next : ∀ h', lB L xs h' → lJ h' → rk_wp 2000 rm_L_law 694 (lw_lv i) [] h' Q) : rk_wp 2000 rm_L_law 549 (lw_lv i) [] h Q := by
  obtain ⟨n1, t1, hT1⟩ := lw_t1
  obtain ⟨n2, t2, hT2⟩ := lw_t316
  refine wp_stp (ix := (.aload_n 1, 1)) (t := (550, lw_lv i, [.ref 1], h)) rfl rfl ?_
  refine lw_arg 1 hB hm (k := m + 1) rfl (by omega) (by omega) (by omega) hL rfl rfl rfl rfl rfl ?_
  refine lw_arg 2 hB hm (k := m + 2) rfl (by omega) (by omega) (by omega) hL rfl rfl rfl rfl rfl ?_
  refine lw_arg 3 hB hm (k := m + 3) rfl (by omega) (by omega) (by omega) hL rfl rfl rfl rfl rfl ?_
  refine lw_arg 4 hB hm (k := m + 4) rfl (by omega) (by omega) (by omega) hL rfl rfl rfl rfl rfl ?_
  refine lw_call2 (D := 1999) (r := []) (Q' := kJ) (av := [.int (xs (m + 1)), .int (xs (m + 2)), .int (xs (m + 3)), .int (xs (m + 4))]) (a := 1) hB (pc := 570) rfl rfl rfl (by decide) hT1 rfl rfl (fun v hv => by simp only [List.mem_cons, List.not_mem_nil, or_false] at hv; rcases hv with rfl | rfl | rfl | rfl <;> rfl) (fun v hv => absurd hv List.not_mem_nil) (by decide) (by decide) (by decide) (logX_10 (by decide) hB hC _ _ _ _) (fun v1 h1 hB1 hp1 => ?_)
  obtain ⟨y1, rfl, -⟩ := id hp1
  obtain ⟨-, -, hC1⟩ := hp1
  refine wp_stp (ix := (.pop, 1)) (t := (574, lw_lv i, [], h1)) rfl rfl ?_
  refine wp_stp (ix := (.aload_n 2, 1)) (t := (575, lw_lv i, [.ref 316], h1)) rfl rfl ?_
  refine lw_arg 1 hB1 hm (k := m + 1) rfl (by omega) (by omega) (by omega) hL rfl rfl rfl rfl rfl ?_
  refine lw_arg 2 hB1 hm (k := m + 2) rfl (by omega) (by omega) (by omega) hL rfl rfl rfl rfl rfl ?_
  refine lw_arg 3 hB1 hm (k := m + 3) rfl (by omega) (by omega) (by omega) hL rfl rfl rfl rfl rfl ?_
  refine lw_arg 4 hB1 hm (k := m + 4) rfl (by omega) (by omega) (by omega) hL rfl rfl rfl rfl rfl ?_
  refine lw_call2 (D := 1999) (r := []) (Q' := kJ) (av := [.int (xs (m + 1)), .int (xs (m + 2)), .int (xs (m + 3)), .int (xs (m + 4))]) (a := 316) hB1 (pc := 595) rfl rfl rfl (by decide) hT2 rfl rfl (fun v hv => by simp only [List.mem_cons, List.not_mem_nil, or_false] at hv; rcases hv with rfl | rfl | rfl | rfl <;> rfl) (fun v hv => absurd hv List.not_mem_nil) (by decide) (by decide) (by decide) (logM_10 (by decide) hB1 hC1 _ _ _ _) (fun v2 h2 hB2 hp2 => ?_)
  obtain ⟨y2, rfl, -⟩ := id hp2
  obtain ⟨-, -, hC2⟩ := hp2
  refine wp_stp (ix := (.pop, 1)) (t := (599, lw_lv i, [], h2)) rfl rfl ?_
  exact wp_stp (ix := (.goto 95, 3)) (t := (694, lw_lv i, [], h2)) rfl rfl (next h2 hB2 hC2)
set_option maxRecDepth 100000 in
set_option maxHeartbeats 4000000 in
theorem lw_c16 {L : Nat} {xs : Nat → Int32} {i : Int32} {h : rk_S} {m : Nat} {Q : Option Value → rk_S → Prop} (hB : lB L xs h) (hC : lJ h) (hm : i.toInt = m) (hb : m + 5 ≤ L) (hL : L ≤ 2560) (next : ∀ h', lB L xs h' → lJ h' → rk_wp 2000 rm_L_law 694 (lw_lv i) [] h' Q) : rk_wp 2000 rm_L_law 602 (lw_lv i) [] h Q := by
  obtain ⟨n1, t1, hT1⟩ := lw_t1
  obtain ⟨n2, t2, hT2⟩ := lw_t316
  refine wp_stp (ix := (.aload_n 1, 1)) (t := (603, lw_lv i, [.ref 1], h)) rfl rfl ?_
  refine lw_call2 (D := 1999) (r := []) (Q' := kJ) (av := []) (a := 1) hB (pc := 603) rfl rfl rfl (by decide) hT1 rfl rfl (fun v hv => absurd hv List.not_mem_nil) (fun v hv => absurd hv List.not_mem_nil) (by decide) (by decide) (by decide) (cleaX_10 (by decide) hB hC) (fun v1 h1 hB1 hp1 => ?_)
  obtain ⟨y1, rfl, -⟩ := id hp1
  obtain ⟨-, -, hC1⟩ := hp1
  refine wp_stp (ix := (.pop, 1)) (t := (607, lw_lv i, [], h1)) rfl rfl ?_
  refine wp_stp (ix := (.aload_n 2, 1)) (t := (608, lw_lv i, [.ref 316], h1)) rfl rfl ?_
  refine lw_call2 (D := 1999) (r := []) (Q' := kJ) (av := []) (a := 316) hB1 (pc := 608) rfl rfl rfl (by decide) hT2 rfl rfl (fun v hv => absurd hv List.not_mem_nil) (fun v hv => absurd hv List.not_mem_nil) (by decide) (by decide) (by decide) (cleaM_10 (by decide) hB1 hC1) (fun v2 h2 hB2 hp2 => ?_)
  obtain ⟨y2, rfl, -⟩ := id hp2
  obtain ⟨-, -, hC2⟩ := hp2
  refine wp_stp (ix := (.pop, 1)) (t := (612, lw_lv i, [], h2)) rfl rfl ?_
  exact wp_stp (ix := (.goto 82, 3)) (t := (694, lw_lv i, [], h2)) rfl rfl (next h2 hB2 hC2)
set_option maxRecDepth 100000 in
set_option maxHeartbeats 4000000 in
theorem lw_c17 {L : Nat} {xs : Nat → Int32} {i : Int32} {h : rk_S} {m : Nat} {Q : Option Value → rk_S → Prop} (hB : lB L xs h) (hC : lJ h) (hm : i.toInt = m) (hb : m + 5 ≤ L) (hL : L ≤ 2560) (next : ∀ h', lB L xs h' → lJ h' → rk_wp 2000 rm_L_law 694 (lw_lv i) [] h' Q) : rk_wp 2000 rm_L_law 615 (lw_lv i) [] h Q := by
  obtain ⟨n1, t1, hT1⟩ := lw_t1
  obtain ⟨n2, t2, hT2⟩ := lw_t316
  refine wp_stp (ix := (.aload_n 1, 1)) (t := (616, lw_lv i, [.ref 1], h)) rfl rfl ?_
  refine lw_arg 1 hB hm (k := m + 1) rfl (by omega) (by omega) (by omega) hL rfl rfl rfl rfl rfl ?_
  refine lw_arg 2 hB hm (k := m + 2) rfl (by omega) (by omega) (by omega) hL rfl rfl rfl rfl rfl ?_
  refine lw_call2 (D := 1999) (r := []) (Q' := kJ) (av := [.int (xs (m + 1)), .int (xs (m + 2))]) (a := 1) hB (pc := 626) rfl rfl rfl (by decide) hT1 rfl rfl (fun v hv => by simp only [List.mem_cons, List.not_mem_nil, or_false] at hv; rcases hv with rfl | rfl <;> rfl) (fun v hv => absurd hv List.not_mem_nil) (by decide) (by decide) (by decide) (costX_10 (by decide) hB hC _ _) (fun v1 h1 hB1 hp1 => ?_)
  obtain ⟨y1, rfl, -⟩ := id hp1
  obtain ⟨-, -, hC1⟩ := hp1
  refine wp_stp (ix := (.pop, 1)) (t := (630, lw_lv i, [], h1)) rfl rfl ?_
  refine wp_stp (ix := (.aload_n 2, 1)) (t := (631, lw_lv i, [.ref 316], h1)) rfl rfl ?_
  refine lw_arg 1 hB1 hm (k := m + 1) rfl (by omega) (by omega) (by omega) hL rfl rfl rfl rfl rfl ?_
  refine lw_arg 2 hB1 hm (k := m + 2) rfl (by omega) (by omega) (by omega) hL rfl rfl rfl rfl rfl ?_
  refine lw_call2 (D := 1999) (r := []) (Q' := kJ) (av := [.int (xs (m + 1)), .int (xs (m + 2))]) (a := 316) hB1 (pc := 641) rfl rfl rfl (by decide) hT2 rfl rfl (fun v hv => by simp only [List.mem_cons, List.not_mem_nil, or_false] at hv; rcases hv with rfl | rfl <;> rfl) (fun v hv => absurd hv List.not_mem_nil) (by decide) (by decide) (by decide) (costM_10 (by decide) hB1 hC1 _ _) (fun v2 h2 hB2 hp2 => ?_)
  obtain ⟨y2, rfl, -⟩ := id hp2
  obtain ⟨-, -, hC2⟩ := hp2
  refine wp_stp (ix := (.pop, 1)) (t := (645, lw_lv i, [], h2)) rfl rfl ?_
  exact wp_stp (ix := (.goto 49, 3)) (t := (694, lw_lv i, [], h2)) rfl rfl (next h2 hB2 hC2)
set_option maxRecDepth 100000 in
set_option maxHeartbeats 4000000 in
theorem lw_c18 {L : Nat} {xs : Nat → Int32} {i : Int32} {h : rk_S} {m : Nat} {Q : Option Value → rk_S → Prop} (hB : lB L xs h) (hC : lJ h) (hm : i.toInt = m) (hb : m + 5 ≤ L) (hL : L ≤ 2560) (next : ∀ h', lB L xs h' → lJ h' → rk_wp 2000 rm_L_law 694 (lw_lv i) [] h' Q) : rk_wp 2000 rm_L_law 648 (lw_lv i) [] h Q := by
  obtain ⟨n1, t1, hT1⟩ := lw_t1
  obtain ⟨n2, t2, hT2⟩ := lw_t316
  refine wp_stp (ix := (.aload_n 1, 1)) (t := (649, lw_lv i, [.ref 1], h)) rfl rfl ?_
  refine lw_arg 1 hB hm (k := m + 1) rfl (by omega) (by omega) (by omega) hL rfl rfl rfl rfl rfl ?_
  refine lw_call2 (D := 1999) (r := []) (Q' := kJ) (av := [.int (xs (m + 1))]) (a := 1) hB (pc := 654) rfl rfl rfl (by decide) hT1 rfl rfl (fun v hv => by simp only [List.mem_cons, List.not_mem_nil, or_false] at hv; rcases hv with rfl <;> rfl) (fun v hv => absurd hv List.not_mem_nil) (by decide) (by decide) (by decide) (bestX_10 (by decide) hB hC _) (fun v1 h1 hB1 hp1 => ?_)
  obtain ⟨y1, rfl, -⟩ := id hp1
  obtain ⟨-, -, hC1⟩ := hp1
  refine wp_stp (ix := (.pop, 1)) (t := (658, lw_lv i, [], h1)) rfl rfl ?_
  refine wp_stp (ix := (.aload_n 2, 1)) (t := (659, lw_lv i, [.ref 316], h1)) rfl rfl ?_
  refine lw_arg 1 hB1 hm (k := m + 1) rfl (by omega) (by omega) (by omega) hL rfl rfl rfl rfl rfl ?_
  refine lw_call2 (D := 1999) (r := []) (Q' := kJ) (av := [.int (xs (m + 1))]) (a := 316) hB1 (pc := 664) rfl rfl rfl (by decide) hT2 rfl rfl (fun v hv => by simp only [List.mem_cons, List.not_mem_nil, or_false] at hv; rcases hv with rfl <;> rfl) (fun v hv => absurd hv List.not_mem_nil) (by decide) (by decide) (by decide) (bestM_10 (by decide) hB1 hC1 _) (fun v2 h2 hB2 hp2 => ?_)
  obtain ⟨y2, rfl, -⟩ := id hp2
  obtain ⟨-, -, hC2⟩ := hp2
  refine wp_stp (ix := (.pop, 1)) (t := (668, lw_lv i, [], h2)) rfl rfl ?_
  exact wp_stp (ix := (.goto 26, 3)) (t := (694, lw_lv i, [], h2)) rfl rfl (next h2 hB2 hC2)
set_option maxRecDepth 100000 in
set_option maxHeartbeats 4000000 in
theorem lw_c19 {L : Nat} {xs : Nat → Int32} {i : Int32} {h : rk_S} {m : Nat} {Q : Option Value → rk_S → Prop} (hB : lB L xs h) (hC : lJ h) (hm : i.toInt = m) (hb : m + 5 ≤ L) (hL : L ≤ 2560) (next : ∀ h', lB L xs h' → lJ h' → rk_wp 2000 rm_L_law 694 (lw_lv i) [] h' Q) : rk_wp 2000 rm_L_law 671 (lw_lv i) [] h Q := by
  obtain ⟨n1, t1, hT1⟩ := lw_t1
  obtain ⟨n2, t2, hT2⟩ := lw_t316
  refine wp_stp (ix := (.aload_n 1, 1)) (t := (672, lw_lv i, [.ref 1], h)) rfl rfl ?_
  refine lw_arg 1 hB hm (k := m + 1) rfl (by omega) (by omega) (by omega) hL rfl rfl rfl rfl rfl ?_
  refine lw_sideJ (D := 1999) (av := [.int (xs (m + 1))]) (a := 1) k_82t hB hC (pc := 677) rfl rfl rfl (by decide) hT1 rfl rfl (fun v hv => by simp only [List.mem_cons, List.not_mem_nil, or_false] at hv; rcases hv with rfl <;> rfl) (by decide) (by decide) (by decide) (fun b k hb z => by have := lw10_E z; unfold lkeep at hb; omega) rfl ⟨List.mem_cons_self, xany_ok _, trivial⟩ (fun y1 h1 hB1 hC1 => ?_)
  refine wp_stp (ix := (.pop, 1)) (t := (681, lw_lv i, [], h1)) rfl rfl ?_
  refine wp_stp (ix := (.aload_n 2, 1)) (t := (682, lw_lv i, [.ref 316], h1)) rfl rfl ?_
  refine lw_arg 1 hB1 hm (k := m + 1) rfl (by omega) (by omega) (by omega) hL rfl rfl rfl rfl rfl ?_
  refine lw_sideJ (D := 1999) (av := [.int (xs (m + 1))]) (a := 316) k_134t hB1 hC1 (pc := 687) rfl rfl rfl (by decide) hT2 rfl rfl (fun v hv => by simp only [List.mem_cons, List.not_mem_nil, or_false] at hv; rcases hv with rfl <;> rfl) (by decide) (by decide) (by decide) (fun b k hb z => by have := lw10_E z; unfold lkeep at hb; omega) rfl ⟨List.mem_cons_self, xany_ok _, trivial⟩ (fun y2 h2 hB2 hC2 => ?_)
  refine wp_stp (ix := (.pop, 1)) (t := (691, lw_lv i, [], h2)) rfl rfl ?_
  exact wp_stp (ix := (.goto 3, 3)) (t := (694, lw_lv i, [], h2)) rfl rfl (next h2 hB2 hC2)
