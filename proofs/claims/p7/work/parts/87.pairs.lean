/-! routine, code and keep over the shared state -/
theorem K1_zero {h : rk_S} (hK : K1 h) {r : Nat} (hr : r < 10) : rk_iv h 15 r = 0 ↔ ∀ b, ¬ may (cds h) 15 r b := by
  rw [← gi_iv, bt_none0]
  exact ⟨fun z b w => z b ((hK.2 15 (Or.inl rfl) r hr b).mpr w), fun z b w => z b ((hK.2 15 (Or.inl rfl) r hr b).mp w)⟩
theorem may_cc {h : rk_S} (hC : lC3 h) (cl r b : Nat) : may (cds h) cl r b ↔ may (cdm h) cl r b := may_iff (fun q c hq => cds_cdm hC hq c) cl r b
def rX13 (h : rk_S) (v : Option Value) (h' : rk_S) : Prop := ∃ x : Int32, v = some (.int x) ∧ rPostX h v h' ∧ gi h' 1 8 = gi h 1 8
def rM13 (h : rk_S) (v : Option Value) (h' : rk_S) : Prop := ∃ x : Int32, v = some (.int x) ∧ rPostM h v h' ∧ ((rk_iv h' 316 0 = rk_iv h 316 0 ∧ ∀ r, rk_iv h' 319 r = rk_iv h 319 r) ∨ (∀ r : Nat, (r : Int) ≠ rk_iv h 316 0 → rk_iv h' 319 r = rk_iv h 319 r) ∧ rk_iv h' 319 (rk_iv h 316 0).toNat = 0)
theorem routX_p {n d : Nat} {h : rk_S} {o : Option Value × rk_S} (hG : yG h) (E : rk_ex n d rm_X7_routine 0 [(0, .ref 1)] [] h = some o) : gi o.2 1 8 = gi h 1 8 := by
  rcases yt_rou0 hG E with ⟨-, -, rfl⟩ | ⟨-, -, rfl⟩
  · exact (gi_x (by decide)).trans (gi_x (by decide))
  · rfl
theorem routX_13 {D L : Nat} {xs : Nat → Int32} {h : rk_S} (hD : 20 ≤ D) (hB : lB L xs h) : rk_wp D rm_X7_routine 0 (lv_args 0 [.ref 1]) [] h (fun v h' => rk_Iv rk_Y h' ∧ (∀ k, rk_get h' 0 k = rk_get h 0 k) ∧ rX13 h v h') := by
  refine wp_weak (wp_and (routX_2 hD hB.2.1) (Q' := fun _ h' => gi h' 1 8 = gi h 1 8) (fun n o E => routX_p (yG_lB hB) E)) (fun v h' hv => ?_)
  obtain ⟨⟨h1, h2, h3⟩, h4⟩ := hv
  obtain ⟨x, e, -⟩ := id h3
  exact ⟨h1, h2, x, e, h3, h4⟩
theorem routM_p {n d : Nat} {h : rk_S} {o : Option Value × rk_S} (hG : yG h) (hI : rk_Iv rk_Y h) (E : rk_ex n d rm_X8_routine 0 [(0, .ref 316)] [] h = some o) : (rk_iv o.2 316 0 = rk_iv h 316 0 ∧ ∀ r, rk_iv o.2 319 r = rk_iv h 319 r) ∨ (∀ r : Nat, (r : Int) ≠ rk_iv h 316 0 → rk_iv o.2 319 r = rk_iv h 319 r) ∧ rk_iv o.2 319 (rk_iv h 316 0).toNat = 0 := by
  obtain ⟨xn, -, n2, n3⟩ := x_fok_ok hI ty_3160
  rw [← n3] at n2
  have n4 := x_one1 n2
  have en : (gi h 316 0).toNatClampNeg = (rk_iv h 316 0).toNat := y_ix (by rw [gi_iv]; omega)
  have A := yt_mrou hG E
  rw [en] at A
  rcases A with ⟨c1, -, rfl⟩ | ⟨c1, -, rfl⟩
  · rw [gi_iv] at c1
    refine Or.inr ⟨fun r hr => ?_, ?_⟩
    · dsimp only
      rw [rk_iv_eq (rk_get_ne (Or.inl (by decide))), rk_iv_eq (rk_get_ne (Or.inl (by decide))), rk_iv_eq (rk_get_ne (Or.inr (by omega))), rk_iv_eq (rk_get_ne (Or.inl (by decide)))]
    · dsimp only
      obtain ⟨_, w9, -, -, -, -, x9⟩ := hG.at (a := 319) (k := (rk_iv h 316 0).toNat) (by decide) (by decide) (by rw [yln_319.1]; omega)
      rw [rk_iv_eq (rk_get_ne (Or.inl (by decide))), rk_iv_eq (rk_get_ne (Or.inl (by decide))), ← gi_iv, gi_self (w := w9) (by rw [rk_get_ne (Or.inl (by decide))]; exact x9)]
      rfl
  · exact Or.inl ⟨rfl, fun _ => rfl⟩
theorem routM_13 {D L : Nat} {xs : Nat → Int32} {h : rk_S} (hD : 20 ≤ D) (hB : lB L xs h) : rk_wp D rm_X8_routine 0 (lv_args 0 [.ref 316]) [] h (fun v h' => rk_Iv rk_Y h' ∧ (∀ k, rk_get h' 0 k = rk_get h 0 k) ∧ rM13 h v h') := by
  refine wp_weak (wp_and (routM_2 hD hB.2.1) (Q' := fun _ h' => (rk_iv h' 316 0 = rk_iv h 316 0 ∧ ∀ r, rk_iv h' 319 r = rk_iv h 319 r) ∨ (∀ r : Nat, (r : Int) ≠ rk_iv h 316 0 → rk_iv h' 319 r = rk_iv h 319 r) ∧ rk_iv h' 319 (rk_iv h 316 0).toNat = 0) (fun n o E => routM_p (yG_lB hB) hB.2.1 E)) (fun v h' hv => ?_)
  obtain ⟨⟨h1, h2, h3⟩, h4⟩ := hv
  obtain ⟨x, e, -⟩ := id h3
  exact ⟨h1, h2, x, e, h3, h4⟩
theorem rout13_pair {h h1 h2 : rk_S} {v1 v2 : Option Value} (hI : rk_Iv rk_Y h) (hJ : lJa h) (p1 : rX13 h v1 h1) (p2 : rM13 h1 v2 h2) : ∃ x1 x2 : Int32, v1 = some (.int x1) ∧ v2 = some (.int x2) ∧ x1.toInt = x2.toInt ∧ lJa h2 := by
  obtain ⟨j1, j2, j3, j4⟩ := hJ
  obtain ⟨y1, ey1, p1, q1⟩ := p1
  obtain ⟨y2, ey2, p2, q2⟩ := p2
  obtain ⟨x1, x2, e1, e2, e3, hC⟩ := rout_pair hI j1 p1 p2
  obtain ⟨z1, -, f1, g1⟩ := p1
  obtain ⟨z2, -, f2, g2⟩ := p2
  have fr : ∀ b k, 4 ≤ b → b ≤ 17 → rk_get h2 b k = rk_get h b k := fun b k h4 h17 => (f2 b k (by unfold rPM; omega)).trans (f1 b k (by unfold rPX; omega))
  have e8 : gi h2 1 8 = gi h 1 8 := (gi_eq (f2 1 8 (by unfold rPM; omega))).trans q1
  have e316 : rk_iv h1 316 0 = rk_iv h 316 0 := rk_iv_eq (f1 316 0 (by unfold rPX; omega))
  have e319 : ∀ r, rk_iv h1 319 r = rk_iv h 319 r := fun r => rk_iv_eq (f1 319 r (by unfold rPX; omega))
  have e25 : rk_iv h2 2 5 = rk_iv h1 2 5 := rk_iv_eq (f2 2 5 (by unfold rPM; omega))
  have c1 := j1.1
  have c2 := hC.1
  rw [e316] at q2 g2
  refine ⟨x1, x2, e1, e2, e3, hC, K1_eq fr j2, fun r hr => ?_, fun r hr hb => ?_⟩
  · rw [e8]
    have j3r := j3 r hr
    refine ⟨fun hr2 => ?_, fun hr2 => j3r.2 (by omega)⟩
    rcases q2 with ⟨q3, q4⟩ | ⟨q3, q4⟩
    · rw [q4 r, e319]
      exact j3r.1 (by omega)
    · by_cases e : (r : Int) = rk_iv h 316 0
      · have er : r = (rk_iv h 316 0).toNat := by omega
        rw [j3r.2 (by omega), er, q4]
        exact ⟨fun z => (by cases z), fun z => absurd z (by decide)⟩
      · rw [q3 r e, e319]
        refine j3r.1 ?_
        rcases g1 with ⟨a, -⟩ | ⟨a, -⟩ <;> omega
  · rw [rk_iv_eq (fr 15 r (by omega) (by omega))]
    rw [e8] at hb
    exact j4 r hr hb
def cX13 (h : rk_S) (r c : Int) (v : Option Value) (h' : rk_S) : Prop := ∃ x : Int32, v = some (.int x) ∧ cPost 2 5 14 (fun r => 4 + r) (fun _ l => l) cPX h r c v h' ∧ K1 h' ∧ ((∀ b k, rk_get h' b k = rk_get h b k) ∨ TC h h')
def cM13 (h : rk_S) (r c : Int) (v : Option Value) (h' : rk_S) : Prop := ∃ x : Int32, v = some (.int x) ∧ cPost 316 0 317 (fun _ => 318) (fun r l => 40 * r + l) cPM h r c v h' ∧ (h' = h ∨ TM h h')
theorem codeX_13 {D L : Nat} {xs : Nat → Int32} {h : rk_S} (hD : 20 ≤ D) (hB : lB L xs h) (hJ : lJa h) (r c : Int32) : rk_wp D rm_X7_code 0 (lv_args 0 [.ref 1, .int r, .int c]) [] h (fun v h' => rk_Iv rk_Y h' ∧ (∀ k, rk_get h' 0 k = rk_get h 0 k) ∧ cX13 h r.toInt c.toInt v h') := by
  refine wp_weak (wp_and (codeX_2 hD hB.2.1 r c) (Q' := fun _ h' => K1 h' ∧ ((∀ b k, rk_get h' b k = rk_get h b k) ∨ TC h h')) (fun n o E => ⟨code_K1 (yG_lB hB) hB.2.1 hJ.1 hJ.2.1 E, code_T (yG_lB hB) hB.2.1 hJ.1 hJ.2.1 E⟩)) (fun v h' hv => ?_)
  obtain ⟨⟨h1, h2, h3⟩, h4, h5⟩ := hv
  obtain ⟨x, e, -⟩ := id h3
  exact ⟨h1, h2, x, e, h3, h4, h5⟩
theorem codeM_13 {D L : Nat} {xs : Nat → Int32} {h : rk_S} (hD : 20 ≤ D) (hB : lB L xs h) (hz : ∀ r : Nat, r < 10 → rk_iv h 316 0 ≤ r → rk_iv h 317 r = 0) (r c : Int32) : rk_wp D rm_X8_code 0 (lv_args 0 [.ref 316, .int r, .int c]) [] h (fun v h' => rk_Iv rk_Y h' ∧ (∀ k, rk_get h' 0 k = rk_get h 0 k) ∧ cM13 h r.toInt c.toInt v h') := by
  refine wp_weak (wp_and (codeM_2 hD hB.2.1 r c) (Q' := fun _ h' => h' = h ∨ TM h h') (fun n o E => codeM_T (yG_lB hB) hB.2.1 hz E)) (fun v h' hv => ?_)
  obtain ⟨⟨h1, h2, h3⟩, h4⟩ := hv
  obtain ⟨x, e, -⟩ := id h3
  exact ⟨h1, h2, x, e, h3, h4⟩
theorem code13_mid {h h1 : rk_S} {r c : Int} {v1 : Option Value} (hI : rk_Iv rk_Y h) (hJ : lJa h) (p1 : cX13 h r c v1 h1) : ∀ r : Nat, r < 10 → rk_iv h1 316 0 ≤ r → rk_iv h1 317 r = 0 := by
  obtain ⟨x, -, ⟨x', -, p⟩, -⟩ := p1
  obtain ⟨xn, -, n2, n3⟩ := x_fok_ok hI ty_25
  rw [← n3] at n2
  have n4 := x_one1 n2
  have fr : ∀ b k, b = 316 ∨ b = 317 → rk_get h1 b k = rk_get h b k := by
    intro b k hb
    rcases p with ⟨-, -, a⟩ | ⟨-, -, -, -, a⟩ | ⟨-, -, -, -, -, a⟩ | ⟨a2, a3, -, -, -, -, -, a⟩
    · exact a b k id
    · exact a b k id
    · exact a b k id
    · exact a b k (by unfold cPX; omega)
  intro r hr hn
  rw [rk_iv_eq (fr 316 0 (Or.inl rfl))] at hn
  rw [rk_iv_eq (fr 317 r (Or.inr rfl)), ← hJ.1.2.1 r hr]
  exact hJ.1.2.2.1 r hr (by have := hJ.1.1; omega)
theorem TC_of {h h1 : rk_S} (hJ : lJa h) (t1 : (∀ b k, rk_get h1 b k = rk_get h b k) ∨ TC h h1) {r : Nat} (hr : r < 10) : bt (gi h1 1 8) r = true ↔ (bt (gi h 1 8) r = true ∧ (r : Int) < rk_iv h 2 5 ∧ rk_iv h1 15 r = 0) := by
  rcases t1 with t1 | t1
  · rw [gi_eq (t1 1 8), rk_iv_eq (t1 15 r)]
    refine ⟨fun z => ⟨z, Classical.byContradiction (fun w => ?_), hJ.2.2.2 r hr z⟩, fun z => z.1⟩
    rw [(hJ.2.2.1 r hr).2 (by omega)] at z
    cases z
  · exact t1 r
theorem code13_pair {h h1 h2 : rk_S} {r c : Int} {v1 v2 : Option Value} (hI : rk_Iv rk_Y h) (hJ : lJa h) (p1 : cX13 h r c v1 h1) (p2 : cM13 h1 r c v2 h2) : ∃ x1 x2 : Int32, v1 = some (.int x1) ∧ v2 = some (.int x2) ∧ x1.toInt = x2.toInt ∧ lJa h2 := by
  obtain ⟨y1, ey1, p1, k1, t1⟩ := p1
  obtain ⟨y2, ey2, p2, t2⟩ := p2
  have tc := fun (r : Nat) (hr : r < 10) => TC_of hJ t1 hr
  obtain ⟨j1, j2, j3, j4⟩ := hJ
  obtain ⟨x1, x2, e1, e2, e3, hC⟩ := code_pair hI j1 p1 p2
  obtain ⟨xn, -, n2, n3⟩ := x_fok_ok hI ty_25
  rw [← n3] at n2
  have n4 := x_one1 n2
  have fM : ∀ b k, b ≤ 17 ∨ (b = 316 ∧ k = 0) → rk_get h2 b k = rk_get h1 b k := by
    intro b k hb
    obtain ⟨x', -, p⟩ := p2
    rcases p with ⟨-, -, a⟩ | ⟨-, -, -, -, a⟩ | ⟨-, -, -, -, -, a⟩ | ⟨-, -, -, -, -, -, -, a⟩
    · exact a b k id
    · exact a b k id
    · exact a b k id
    · exact a b k (by unfold cPM; omega)
  have fX : ∀ b k, b = 2 ∨ 294 ≤ b → rk_get h1 b k = rk_get h b k := by
    intro b k hb
    obtain ⟨x', -, p⟩ := p1
    rcases p with ⟨-, -, a⟩ | ⟨-, -, -, -, a⟩ | ⟨-, -, -, -, -, a⟩ | ⟨a2, a3, -, -, -, -, -, a⟩
    · exact a b k id
    · exact a b k id
    · exact a b k id
    · exact a b k (by unfold cPX; omega)
  have hK2 : K1 h2 := K1_eq (fun b k h4 h17 => fM b k (Or.inl h17)) k1
  have e8 : gi h2 1 8 = gi h1 1 8 := gi_eq (fM 1 8 (by omega))
  have e15 : ∀ r, rk_iv h2 15 r = rk_iv h1 15 r := fun r => rk_iv_eq (fM 15 r (by omega))
  have f25 : rk_iv h2 2 5 = rk_iv h 2 5 := (rk_iv_eq (fM 2 5 (by omega))).trans (rk_iv_eq (fX 2 5 (by omega)))
  have f316 : rk_iv h1 316 0 = rk_iv h 316 0 := rk_iv_eq (fX 316 0 (by omega))
  have f319 : ∀ r, rk_iv h1 319 r = rk_iv h 319 r := fun r => rk_iv_eq (fX 319 r (by omega))
  have c1 := j1.1
  have tm : ∀ r : Nat, r < 10 → (r : Int) < rk_iv h 2 5 → (rk_iv h2 319 r = 1 ↔ (rk_iv h 319 r = 1 ∧ ∀ b, ¬ may (cdm h2) 15 r b)) := by
    intro r hr hrN
    rcases t2 with t2 | t2
    · rw [t2, f319]
      refine ⟨fun z => ⟨z, fun b w => ?_⟩, fun z => z.1⟩
      have hb := ((j3 r hr).1 hrN).mpr z
      have h0 := (K1_zero j2 hr).mp (j4 r hr hb)
      refine h0 b ((may_cc j1 15 r b).mpr ((may_iff (fun q c _ => cdm_eq (h := h) (h' := h1) (fun b k hb => fX b k (by omega)) q c) 15 r b).mp w))
    · rw [(t2 r hr).2 (by rw [f316]; omega), f319]
  refine ⟨x1, x2, e1, e2, e3, hC, hK2, fun r hr => ⟨fun hrN => ?_, fun hrN => ?_⟩, fun r hr hb => ?_⟩
  · rw [f25] at hrN
    rw [e8, tc r hr, tm r hr hrN, (j3 r hr).1 hrN, ← e15, K1_zero hK2 hr]
    constructor
    · rintro ⟨a, -, b⟩
      exact ⟨a, fun i z => b i ((may_cc hC 15 r i).mpr z)⟩
    · rintro ⟨a, b⟩
      exact ⟨a, hrN, fun i z => b i ((may_cc hC 15 r i).mp z)⟩
  · rw [f25] at hrN
    rw [e8]
    cases e : bt (gi h1 1 8) r with
    | false => rfl
    | true =>
      have := (tc r hr).mp e
      omega
  · rw [e15]
    rw [e8] at hb
    exact ((tc r hr).mp hb).2.2
theorem keepX_13 {D L : Nat} {xs : Nat → Int32} {h : rk_S} (hD : 20 ≤ D) (hB : lB L xs h) (r : Int32) {z : Int32} (hz : xinB z.toInt [(0, 1)]) : rk_wp D rm_X7_keep 0 (lv_args 0 [.ref 1, .int r, .int z]) [] h (fun v h' => rk_Iv rk_Y h' ∧ (∀ k, rk_get h' 0 k = rk_get h 0 k) ∧ kpX h r.toInt z.toInt v h') :=
  y_meth (R := kpX h r.toInt z.toInt) k_74 rfl (Nat.le_trans (by decide) hD) hB.2.1 (fun k z => by have := lw13_74 z; omega) ⟨List.mem_cons_self, xany_ok r, hz, trivial⟩ (fun n o E => keepX_p (yG_lB hB) hB.2.1 E)
theorem keepM_13 {D L : Nat} {xs : Nat → Int32} {h : rk_S} (hD : 20 ≤ D) (hB : lB L xs h) (hC : lC3 h) (r : Int32) {z : Int32} (hz : xinB z.toInt [(0, 1)]) : rk_wp D rm_X8_keep 0 (lv_args 0 [.ref 316, .int r, .int z]) [] h (fun v h' => rk_Iv rk_Y h' ∧ (∀ k, rk_get h' 0 k = rk_get h 0 k) ∧ kpM h r.toInt z.toInt v h') :=
  y_meth (R := kpM h r.toInt z.toInt) k_123 rfl (Nat.le_trans (by decide) hD) hB.2.1 (fun k z => by have := lw13_123 z; omega) ⟨List.mem_cons_self, xany_ok r, hz, trivial⟩ (fun n o E => keepM_p (yG_lB hB) hB.2.1 hC (x_one1 hz) E)
theorem keep_mid {h h1 : rk_S} {r z : Int} {v1 : Option Value} (hJ : lJa h) (p1 : kpX h r z v1 h1) : lC3 h1 := by
  obtain ⟨x, -, p⟩ := p1
  rcases p with ⟨-, -, rfl⟩ | ⟨-, -, -, -, rfl⟩ | ⟨-, -, -, -, -, a⟩
  · exact hJ.1
  · exact hJ.1
  · exact lC3_eq (fun b k hb => rk_iv_eq (a b k (by omega) (by omega) (by omega))) hJ.1
theorem keep_pair {h h1 h2 : rk_S} {r z z' : Int} {v1 v2 : Option Value} (hI : rk_Iv rk_Y h) (hJ : lJa h) (hz1 : z = 0 ∨ z = 1) (hz2 : z' = 0 ∨ z' = 1) (hzz : z = 0 ↔ z' = 0) (p1 : kpX h r z v1 h1) (p2 : kpM h1 r z' v2 h2) : ∃ x1 x2 : Int32, v1 = some (.int x1) ∧ v2 = some (.int x2) ∧ x1.toInt = x2.toInt ∧ lJa h2 := by
  have hC1 := keep_mid hJ p1
  obtain ⟨j1, j2, j3, j4⟩ := hJ
  have hzz' : z = z' := by omega
  subst hzz'
  obtain ⟨xn, -, n2, n3⟩ := x_fok_ok hI ty_25
  rw [← n3] at n2
  have n4 := x_one1 n2
  have c1 := j1.1
  obtain ⟨x1, rfl, p1⟩ := p1
  obtain ⟨x2, rfl, p2⟩ := p2
  refine ⟨x1, x2, rfl, rfl, ?_⟩
  rcases p1 with ⟨a1, a2, rfl⟩ | ⟨a1, a2, a3, a4, rfl⟩ | ⟨a1, a2, a3, a4, a5, a6⟩
  · rcases p2 with ⟨b1, b2, rfl⟩ | ⟨b1, b2, b3, b4, rfl⟩ | ⟨b1, b2, b3, b4, b5, b6⟩
    · exact ⟨by omega, j1, j2, j3, j4⟩
    · omega
    · omega
  · rcases p2 with ⟨b1, b2, rfl⟩ | ⟨b1, b2, b3, b4, rfl⟩ | ⟨b1, b2, b3, b4, b5, b6⟩
    · omega
    · exact ⟨by omega, j1, j2, j3, j4⟩
    · exact absurd ((K1_zero j2 (by omega)).mpr (fun b w => b3 b ((may_cc j1 15 _ b).mp w))) a3
  · have e316 : rk_iv h1 316 0 = rk_iv h 316 0 := rk_iv_eq (a6 316 0 (by omega) (by omega) (by omega))
    have e319 : ∀ k, rk_iv h1 319 k = rk_iv h 319 k := fun k => rk_iv_eq (a6 319 k (by omega) (by omega) (by omega))
    have hm1 : ∀ b, ¬ may (cdm h1) 15 r.toNat b := by
      intro b w
      refine (K1_zero j2 (show r.toNat < 10 by omega)).mp a3 b ((may_cc j1 15 _ b).mpr ((may_iff (fun q c _ => cdm_eq (h := h) (h' := h1) (fun b k hb => a6 b k (by omega) (by omega) (by omega)) q c) 15 _ b).mp w))
    rw [e316] at p2
    rcases p2 with ⟨b1, b2, rfl⟩ | ⟨b1, b2, ⟨bb, b3⟩, b4, rfl⟩ | ⟨b1, b2, b3, b4, b5, b6⟩
    · omega
    · exact absurd b3 (hm1 bb)
    · have hr10 : r.toNat < 10 := by omega
      have j3r := (j3 r.toNat hr10).1 (by omega)
      have h01 := h01_of hI r.toNat hr10
      rw [e319] at b4
      have fr : ∀ b k, (b = 2 ∨ (4 ≤ b ∧ b ≤ 17) ∨ (b = 316 ∧ k = 0) ∨ b = 317 ∨ b = 318) → rk_get h2 b k = rk_get h b k := fun b k hb => (b6 b k (by omega) (by omega) (by omega)).trans (a6 b k (by omega) (by omega) (by omega))
      have e8 : gi h2 1 8 = gi h1 1 8 := gi_eq (b6 1 8 (by omega) (by omega) (by omega))
      have e25 : rk_iv h2 2 5 = rk_iv h 2 5 := rk_iv_eq (fr 2 5 (by omega))
      refine ⟨?_, lC3_eq (fun b k hb => rk_iv_eq (fr b k (by omega))) j1, K1_eq (fun b k h4 h17 => fr b k (by omega)) j2, fun q hq => ?_, fun q hq hb => ?_⟩
      · rcases a4 with ⟨q1, q2⟩ | ⟨q1, q2⟩
        · rw [q2] at j3r
          have : ¬ rk_iv h 319 r.toNat = 1 := fun w => absurd (j3r.mpr w) Bool.false_ne_true
          omega
        · have := j3r.mp q2
          omega
      · rw [e25, e8, a5 q (by omega)]
        by_cases e : q = r.toNat
        · subst e
          rw [b5]
          refine ⟨fun _ => ?_, fun w => by omega⟩
          constructor
          · rintro (⟨-, w⟩ | ⟨w, -⟩)
            · omega
            · exact absurd rfl w
          · intro w
            exact Or.inl ⟨rfl, by omega⟩
        · rw [rk_iv_eq (b6 319 q (by omega) (by omega) (by omega)), e319]
          have j3q := j3 q hq
          refine ⟨fun w => ?_, fun w => ?_⟩
          · rw [← j3q.1 w]
            constructor
            · rintro (⟨u, -⟩ | ⟨-, u⟩)
              · exact absurd u e
              · exact u
            · exact fun u => Or.inr ⟨e, u⟩
          · cases eb : bt (gi h1 1 8) q with
            | false => rfl
            | true =>
              rcases (a5 q (by omega)).mp eb with ⟨u, -⟩ | ⟨-, u⟩
              · exact absurd u e
              · rw [j3q.2 w] at u
                cases u
      · rw [rk_iv_eq (fr 15 q (by omega))]
        rw [e8, a5 q (by omega)] at hb
        rcases hb with ⟨u, -⟩ | ⟨-, u⟩
        · rw [u]; exact a3
        · exact j4 q hq u
/-! the same, with worlds, answers and what is kept -/
def kJ (v : Option Value) (h' : rk_S) : Prop := ∃ x : Int32, v = some (.int x) ∧ lJ h'
theorem kJ_con {m D : Nat} {c : xCt} {M : rk_M} {av : List Value} {h : rk_S} (hk : xCon m c) (hM : rk_m m = some M) (hD : c.1 ≤ D) (hI : rk_Iv rk_Y h) (hJ : lJ h) (hw : ∀ b k, (b = 0 ∨ lkeep b k) → ¬ xCov c.2.2.1 b k) (hres : c.2.2.2 = some x_any) (ha : xArg c.2.1 av) : rk_wp D M 0 (lv_args 0 av) [] h (fun v h' => rk_Iv rk_Y h' ∧ (∀ k, rk_get h' 0 k = rk_get h 0 k) ∧ kJ v h') := by
  obtain ⟨M2, e1, e2⟩ := hk
  cases hM.symm.trans e1
  refine wp_weak (e2 D av h hD hI ha) (fun v h' hv => ⟨hv.1, fun k => hv.2.1 0 k (hw 0 k (Or.inl rfl)), ?_⟩)
  have hr := hv.2.2
  rw [hres] at hr
  cases v with
  | none => exact absurd hr id
  | some v =>
    obtain ⟨y, rfl, -⟩ := rk_okI hr
    exact ⟨y, rfl, lJ_eq (fun b k hb => hv.2.1 b k (hw b k (Or.inr hb))) hJ⟩
/-! routine -/
def rX10 (h : rk_S) (v : Option Value) (h' : rk_S) : Prop := ∃ x : Int32, v = some (.int x) ∧ rX13 h v h' ∧ ((h' = h ∧ 10 ≤ (gi h 2 5).toInt) ∨ ((gi h 2 5).toInt < 10 ∧ (gi h' 20 1).toInt = 0 ∧ ∀ b k, ¬ (b = 20 ∧ k = 1) → ¬ (b = 2 ∧ k = 5) → rk_get h' b k = rk_get h b k))
def rM10 (h : rk_S) (v : Option Value) (h' : rk_S) : Prop := ∃ x : Int32, v = some (.int x) ∧ rM13 h v h' ∧ ((h' = h ∧ (gi h 316 0).toInt = 10) ∨ (¬ (gi h 316 0).toInt = 10 ∧ (gi h' 322 0).toInt = 0 ∧ ∀ b k, ¬ (317 ≤ b ∧ b ≤ 319) → ¬ (b = 316 ∧ k = 0) → ¬ (b = 322 ∧ k = 0) → rk_get h' b k = rk_get h b k))
theorem routX_10 {D L : Nat} {xs : Nat → Int32} {h : rk_S} (hD : 1000 ≤ D) (hB : lB L xs h) : rk_wp D rm_X7_routine 0 (lv_args 0 [.ref 1]) [] h (fun v h' => rk_Iv rk_Y h' ∧ (∀ k, rk_get h' 0 k = rk_get h 0 k) ∧ rX10 h v h') := by
  have hG := yG_lB hB
  refine wp_weak (wp_and (routX_13 (by omega) hB) (Q' := fun _ h' => (h' = h ∧ 10 ≤ (gi h 2 5).toInt) ∨ ((gi h 2 5).toInt < 10 ∧ (gi h' 20 1).toInt = 0 ∧ ∀ b k, ¬ (b = 20 ∧ k = 1) → ¬ (b = 2 ∧ k = 5) → rk_get h' b k = rk_get h b k)) (fun n o E => ?_)) (fun v h' hv => ?_)
  · rcases yt_rou0 hG E with ⟨c1, -, rfl⟩ | ⟨c1, -, rfl⟩
    · refine Or.inr ⟨c1, ?_, fun b k z1 z2 => (rk_get_ne (by omega)).trans (rk_get_ne (by omega))⟩
      rw [gi_x (by decide), gi_s (yE_20 hG)]
      rfl
    · exact Or.inl ⟨rfl, by omega⟩
  · obtain ⟨⟨h1, h2, h3⟩, h4⟩ := hv
    obtain ⟨x, e, -⟩ := id h3
    exact ⟨h1, h2, x, e, h3, h4⟩
theorem routM_10 {D L : Nat} {xs : Nat → Int32} {h : rk_S} (hD : 1000 ≤ D) (hB : lB L xs h) : rk_wp D rm_X8_routine 0 (lv_args 0 [.ref 316]) [] h (fun v h' => rk_Iv rk_Y h' ∧ (∀ k, rk_get h' 0 k = rk_get h 0 k) ∧ rM10 h v h') := by
  have hG := yG_lB hB
  refine wp_weak (wp_and (routM_13 (by omega) hB) (Q' := fun _ h' => (h' = h ∧ (gi h 316 0).toInt = 10) ∨ (¬ (gi h 316 0).toInt = 10 ∧ (gi h' 322 0).toInt = 0 ∧ ∀ b k, ¬ (317 ≤ b ∧ b ≤ 319) → ¬ (b = 316 ∧ k = 0) → ¬ (b = 322 ∧ k = 0) → rk_get h' b k = rk_get h b k)) (fun n o E => ?_)) (fun v h' hv => ?_)
  · rcases yt_mrou hG E with ⟨c1, -, rfl⟩ | ⟨c1, -, rfl⟩
    · refine Or.inr ⟨c1, ?_, fun b k z1 z2 z3 => (rk_get_ne (by omega)).trans ((rk_get_ne (by omega)).trans ((rk_get_ne (by omega)).trans (rk_get_ne (by omega))))⟩
      rw [gi_s (yE_pt.mpr (yE_pt.mpr (yE_pt.mpr (yE_322 hG))))]
      rfl
    · exact Or.inl ⟨rfl, c1⟩
  · obtain ⟨⟨h1, h2, h3⟩, h4⟩ := hv
    obtain ⟨x, e, -⟩ := id h3
    exact ⟨h1, h2, x, e, h3, h4⟩
theorem rout10_pair {h h1 h2 : rk_S} {v1 v2 : Option Value} (hI : rk_Iv rk_Y h) (hJ : lJ h) (p1 : rX10 h v1 h1) (p2 : rM10 h1 v2 h2) : ∃ x1 x2 : Int32, v1 = some (.int x1) ∧ v2 = some (.int x2) ∧ x1.toInt = x2.toInt ∧ lJ h2 := by
  obtain ⟨j1, j2, j3, j4, j5⟩ := hJ
  obtain ⟨-, -, p1, q1⟩ := p1
  obtain ⟨-, -, p2, q2⟩ := p2
  obtain ⟨x1, x2, e1, e2, e3, hC⟩ := rout13_pair hI j1 p1 p2
  refine ⟨x1, x2, e1, e2, e3, hC, ?_⟩
  obtain ⟨f1, f2, -⟩ := p_fac hI
  have c1 := j1.1.1
  rw [gi_iv] at q1 q2
  rcases q1 with ⟨rfl, a1⟩ | ⟨a1, a2, a3⟩
  · rcases q2 with ⟨rfl, b1⟩ | ⟨b1, b2, b3⟩
    · exact ⟨j2, j3, j4, j5⟩
    · omega
  · have e0 : rk_iv h1 316 0 = rk_iv h 316 0 := rk_iv_eq (a3 316 0 (by omega) (by omega))
    rw [e0] at q2
    rcases q2 with ⟨rfl, b1⟩ | ⟨b1, b2, b3⟩
    · omega
    · have fr : ∀ b k, ¬ (b = 20 ∧ k = 1) → ¬ (b = 2 ∧ k = 5) → ¬ (317 ≤ b ∧ b ≤ 319) → ¬ (b = 316 ∧ k = 0) → ¬ (b = 322 ∧ k = 0) → rk_get h2 b k = rk_get h b k := fun b k z1 z2 z3 z4 z5 => (b3 b k z3 z4 z5).trans (a3 b k z1 z2)
      refine ⟨lW_eq (fun b k hb => fr b k (by omega) (by omega) (by omega) (by omega) (by omega)) j2, SV_0 (fun k => fr 21 k (by omega) (by omega) (by omega) (by omega) (by omega)) (by rw [gi_eq (b3 20 1 (by omega) (by omega) (by omega))]; exact a2) j3, VM_0 b2, LG_le ?_ (LG_eq (fun b k hb => fr b k (by omega) (by omega) (by omega) (by omega) (by omega)) j5)⟩
      obtain ⟨y1, -, p1, -⟩ := p1
      obtain ⟨z1, -, -, g1⟩ := p1
      unfold pN
      rw [gi_iv, gi_iv, rk_iv_eq (b3 2 5 (by omega) (by omega) (by omega))]
      omega
/-! code -/
def cX10 (h : rk_S) (r c : Int) (v : Option Value) (h' : rk_S) : Prop := ∃ x : Int32, v = some (.int x) ∧ cX13 h r c v h' ∧ ((∀ b k, rk_get h' b k = rk_get h b k) ∨ ((gi h' 20 1).toInt = 0 ∧ (∃ x : Int32, v = some (.int x) ∧ 0 < x.toInt) ∧ ∀ b k, ¬ (b = 1 ∧ k = 8) → ¬ (4 ≤ b ∧ b ≤ 17) → ¬ (b = 20 ∧ k = 1) → rk_get h' b k = rk_get h b k))
def cM10 (h : rk_S) (r c : Int) (v : Option Value) (h' : rk_S) : Prop := ∃ x : Int32, v = some (.int x) ∧ cM13 h r c v h' ∧ ((h' = h ∧ ∃ x : Int32, v = some (.int x) ∧ x.toInt < 0) ∨ ((gi h' 322 0).toInt = 0 ∧ ∀ b k, ¬ (317 ≤ b ∧ b ≤ 319) → ¬ (b = 322 ∧ k = 0) → rk_get h' b k = rk_get h b k))
theorem codeX_10 {D L : Nat} {xs : Nat → Int32} {h : rk_S} (hD : 1000 ≤ D) (hB : lB L xs h) (hJ : lJ h) (r c : Int32) : rk_wp D rm_X7_code 0 (lv_args 0 [.ref 1, .int r, .int c]) [] h (fun v h' => rk_Iv rk_Y h' ∧ (∀ k, rk_get h' 0 k = rk_get h 0 k) ∧ cX10 h r.toInt c.toInt v h') := by
  refine wp_weak (wp_and (codeX_13 (by omega) hB hJ.1 r c) (Q' := fun v h' => (∀ b k, rk_get h' b k = rk_get h b k) ∨ ((gi h' 20 1).toInt = 0 ∧ (∃ x : Int32, v = some (.int x) ∧ 0 < x.toInt) ∧ ∀ b k, ¬ (b = 1 ∧ k = 8) → ¬ (4 ≤ b ∧ b ≤ 17) → ¬ (b = 20 ∧ k = 1) → rk_get h' b k = rk_get h b k)) (fun n o E => code_S (yG_lB hB) hB.2.1 hJ.1.1 hJ.1.2.1 E)) (fun v h' hv => ?_)
  obtain ⟨⟨h1, h2, h3⟩, h4⟩ := hv
  obtain ⟨x, e, -⟩ := id h3
  exact ⟨h1, h2, x, e, h3, h4⟩
theorem codeM_10 {D L : Nat} {xs : Nat → Int32} {h : rk_S} (hD : 1000 ≤ D) (hB : lB L xs h) (hz : ∀ r : Nat, r < 10 → rk_iv h 316 0 ≤ r → rk_iv h 317 r = 0) (r c : Int32) : rk_wp D rm_X8_code 0 (lv_args 0 [.ref 316, .int r, .int c]) [] h (fun v h' => rk_Iv rk_Y h' ∧ (∀ k, rk_get h' 0 k = rk_get h 0 k) ∧ cM10 h r.toInt c.toInt v h') := by
  refine wp_weak (wp_and (codeM_13 (by omega) hB hz r c) (Q' := fun v h' => (h' = h ∧ ∃ x : Int32, v = some (.int x) ∧ x.toInt < 0) ∨ ((gi h' 322 0).toInt = 0 ∧ ∀ b k, ¬ (317 ≤ b ∧ b ≤ 319) → ¬ (b = 322 ∧ k = 0) → rk_get h' b k = rk_get h b k)) (fun n o E => codeM_S (yG_lB hB) hB.2.1 hz E)) (fun v h' hv => ?_)
  obtain ⟨⟨h1, h2, h3⟩, h4⟩ := hv
  obtain ⟨x, e, -⟩ := id h3
  exact ⟨h1, h2, x, e, h3, h4⟩
theorem code10_pair {h h1 h2 : rk_S} {r c : Int} {v1 v2 : Option Value} (hI : rk_Iv rk_Y h) (hJ : lJ h) (p1 : cX10 h r c v1 h1) (p2 : cM10 h1 r c v2 h2) : ∃ x1 x2 : Int32, v1 = some (.int x1) ∧ v2 = some (.int x2) ∧ x1.toInt = x2.toInt ∧ lJ h2 := by
  obtain ⟨j1, j2, j3, j4, j5⟩ := hJ
  obtain ⟨-, -, p1, q1⟩ := p1
  obtain ⟨-, -, p2, q2⟩ := p2
  obtain ⟨x1, x2, e1, e2, e3, hC⟩ := code13_pair hI j1 p1 p2
  refine ⟨x1, x2, e1, e2, e3, hC, ?_⟩
  rcases q1 with a | ⟨a1, ⟨y1, ey1, a2⟩, a3⟩
  · rcases q2 with ⟨rfl, -⟩ | ⟨b1, b2⟩
    · exact ⟨lW_eq (fun b k _ => a b k) j2, lS_eq (fun b k _ => a b k) (fun b k _ _ => a b k) j3, lV_eq (fun b k _ => a b k) (fun b k _ _ => a b k) j4, lG_eq (a 2 5) (fun b k _ => a b k) j5⟩
    · have fr : ∀ b k, ¬ (317 ≤ b ∧ b ≤ 319) → ¬ (b = 322 ∧ k = 0) → rk_get h2 b k = rk_get h b k := fun b k z1 z2 => (b2 b k z1 z2).trans (a b k)
      exact ⟨lW_eq (fun b k hb => fr b k (by omega) (by omega)) j2, lS_eq (fun b k hb => fr b k (by unfold lkp at hb; omega) (by unfold lkp at hb; omega)) (fun b k _ _ => fr b k (by omega) (by omega)) j3, VM_0 b1, lG_eq (fr 2 5 (by omega) (by omega)) (fun b k hb => fr b k (by omega) (by omega)) j5⟩
  · rcases q2 with ⟨-, y2, ey2, b1⟩ | ⟨b1, b2⟩
    · rw [e1] at ey1
      rw [e2] at ey2
      cases ey1
      cases ey2
      omega
    · have fr : ∀ b k, ¬ (b = 1 ∧ k = 8) → ¬ (4 ≤ b ∧ b ≤ 17) → ¬ (b = 20 ∧ k = 1) → ¬ (317 ≤ b ∧ b ≤ 319) → ¬ (b = 322 ∧ k = 0) → rk_get h2 b k = rk_get h b k := fun b k z1 z2 z3 z4 z5 => (b2 b k z4 z5).trans (a3 b k z1 z2 z3)
      exact ⟨lW_eq (fun b k hb => fr b k (by omega) (by omega) (by omega) (by omega) (by omega)) j2, SV_0 (fun k => fr 21 k (by omega) (by omega) (by omega) (by omega) (by omega)) (by rw [gi_eq (b2 20 1 (by omega) (by omega))]; exact a1) j3, VM_0 b1, lG_eq (fr 2 5 (by omega) (by omega) (by omega) (by omega) (by omega)) (fun b k hb => fr b k (by omega) (by omega) (by omega) (by omega) (by omega)) j5⟩
theorem code10_mid {h h1 : rk_S} {r c : Int} {v1 : Option Value} (hI : rk_Iv rk_Y h) (hJ : lJ h) (p1 : cX10 h r c v1 h1) : ∀ r : Nat, r < 10 → rk_iv h1 316 0 ≤ r → rk_iv h1 317 r = 0 := by
  obtain ⟨-, -, p1, -⟩ := p1
  exact code13_mid hI hJ.1 p1
/-! keep -/
def kX10 (h : rk_S) (r z : Int) (v : Option Value) (h' : rk_S) : Prop := ∃ x : Int32, v = some (.int x) ∧ kpX h r z v h' ∧ SV (pN h) (pL h) (pC h) h' ∧ ∀ b k, ¬ (b = 1 ∧ k = 8) → ¬ (b = 20 ∧ k = 1) → b ≠ 21 → rk_get h' b k = rk_get h b k
def kM10 (h : rk_S) (r z : Int) (v : Option Value) (h' : rk_S) : Prop := ∃ x : Int32, v = some (.int x) ∧ kpM h r z v h' ∧ (lV h → VM (pN h) (pL h) (pC h) 0 h') ∧ (lV h → ∀ b k, b ≠ 319 → ¬ (b = 316 ∧ k = 21) → ¬ (mtb 0 b k ∧ 322 ≤ b) → rk_get h' b k = rk_get h b k)
theorem keepX_10 {D L : Nat} {xs : Nat → Int32} {h : rk_S} (hD : 1000 ≤ D) (hB : lB L xs h) (hJ : lJ h) (r : Int32) {z : Int32} (hz : xinB z.toInt [(0, 1)]) : rk_wp D rm_X7_keep 0 (lv_args 0 [.ref 1, .int r, .int z]) [] h (fun v h' => rk_Iv rk_Y h' ∧ (∀ k, rk_get h' 0 k = rk_get h 0 k) ∧ kX10 h r.toInt z.toInt v h') := by
  refine y_meth (R := kX10 h r.toInt z.toInt) k_74 rfl (Nat.le_trans (by decide) hD) hB.2.1 (fun k z => by have := lw13_74 z; omega) ⟨List.mem_cons_self, xany_ok r, hz, trivial⟩ (fun n o E => ?_)
  have q := keepX_p (yG_lB hB) hB.2.1 E
  obtain ⟨x, e, -⟩ := id q
  exact ⟨x, e, q, kpX_S (yG_lB hB) hJ.2.2.1 E⟩
theorem keepM_10 {D L : Nat} {xs : Nat → Int32} {h : rk_S} (hD : 1000 ≤ D) (hB : lB L xs h) (hC : lC3 h) (r : Int32) {z : Int32} (hz : xinB z.toInt [(0, 1)]) : rk_wp D rm_X8_keep 0 (lv_args 0 [.ref 316, .int r, .int z]) [] h (fun v h' => rk_Iv rk_Y h' ∧ (∀ k, rk_get h' 0 k = rk_get h 0 k) ∧ kM10 h r.toInt z.toInt v h') := by
  refine y_meth (R := kM10 h r.toInt z.toInt) k_123 rfl (Nat.le_trans (by decide) hD) hB.2.1 (fun k z => by have := lw13_123 z; omega) ⟨List.mem_cons_self, xany_ok r, hz, trivial⟩ (fun n o E => ?_)
  have q := keepM_p (yG_lB hB) hB.2.1 hC (x_one1 hz) E
  obtain ⟨x, e, -⟩ := id q
  exact ⟨x, e, q, fun hV => (kpM_V (yG_lB hB) hB.2.1 hC hV E).1, fun hV => (kpM_V (yG_lB hB) hB.2.1 hC hV E).2⟩
theorem keep10_mid {h h1 : rk_S} {r z : Int} {v1 : Option Value} (hJ : lJ h) (p1 : kX10 h r z v1 h1) : lC3 h1 := by
  obtain ⟨-, -, p1, -⟩ := p1
  exact keep_mid hJ.1 p1
theorem keep10_pair {h h1 h2 : rk_S} {r z z' : Int} {v1 v2 : Option Value} (hI : rk_Iv rk_Y h) (hJ : lJ h) (hz1 : z = 0 ∨ z = 1) (hz2 : z' = 0 ∨ z' = 1) (hzz : z = 0 ↔ z' = 0) (p1 : kX10 h r z v1 h1) (p2 : kM10 h1 r z' v2 h2) : ∃ x1 x2 : Int32, v1 = some (.int x1) ∧ v2 = some (.int x2) ∧ x1.toInt = x2.toInt ∧ lJ h2 := by
  obtain ⟨j1, j2, j3, j4, j5⟩ := hJ
  obtain ⟨-, -, p1, a1, a2⟩ := p1
  obtain ⟨-, -, p2, b1, b2⟩ := p2
  obtain ⟨x1, x2, e1, e2, e3, hC⟩ := keep_pair hI j1 hz1 hz2 hzz p1 p2
  refine ⟨x1, x2, e1, e2, e3, hC, ?_⟩
  have hV1 : lV h1 := lV_eq (fun b k hb => a2 b k (by unfold lkp at hb; omega) (by unfold lkp at hb; omega) (by unfold lkp at hb; omega)) (fun b k _ z2 => a2 b k (by omega) (by omega) (by omega)) j4
  have b1 := b1 hV1
  have b2 := b2 hV1
  have m322 : ∀ b k, b ≤ 321 ∨ b = 344 → ¬ (mtb 0 b k ∧ 322 ≤ b) := fun b k hb z => by unfold mtb at z; omega
  have fr : ∀ b k, ¬ (b = 1 ∧ k = 8) → ¬ (b = 20 ∧ k = 1) → b ≠ 21 → b ≠ 319 → ¬ (b = 316 ∧ k = 21) → (b ≤ 321 ∨ b = 344) → rk_get h2 b k = rk_get h b k := fun b k z1 z2 z3 z4 z5 z6 => (b2 b k z4 z5 (m322 b k z6)).trans (a2 b k z1 z2 z3)
  have gr1 : ∀ b k, b < 316 → rk_get h2 b k = rk_get h1 b k := fun b k hb => b2 b k (by omega) (by omega) (m322 b k (by omega))
  have hp : ∀ b k, lkp b k → rk_get h2 b k = rk_get h b k := fun b k hb => fr b k (by unfold lkp at hb; omega) (by unfold lkp at hb; omega) (by unfold lkp at hb; omega) (by unfold lkp at hb; omega) (by unfold lkp at hb; omega) (by unfold lkp at hb; omega)
  have hp1 : ∀ b k, lkp b k → rk_get h1 b k = rk_get h b k := fun b k hb => a2 b k (by unfold lkp at hb; omega) (by unfold lkp at hb; omega) (by unfold lkp at hb; omega)
  have hp2 : ∀ b k, lkp b k → rk_get h2 b k = rk_get h1 b k := fun b k hb => gr1 b k (by unfold lkp at hb; omega)
  refine ⟨lW_eq (fun b k hb => fr b k (by omega) (by omega) (by omega) (by omega) (by omega) (by omega)) j2, ?_, ?_, lG_eq (hp 2 5 (by unfold lkp; omega)) (fun b k hb => fr b k (by omega) (by omega) (by omega) (by omega) (by omega) (by omega)) j5⟩
  · have hS1 : lS h1 := by
      unfold lS
      rw [pN_eq (hp1 2 5 (by unfold lkp; omega)), pL_eq (fun k => hp1 14 k (by unfold lkp; omega)), pC_eq (fun b k z1 z2 => hp1 b k (by unfold lkp; omega))]
      exact a1
    exact lS_eq hp2 (fun b k _ _ => gr1 b k (by omega)) hS1
  · unfold lV
    rw [pN_eq (hp2 2 5 (by unfold lkp; omega)), pL_eq (fun k => hp2 14 k (by unfold lkp; omega)), pC_eq (fun b k z1 z2 => hp2 b k (by unfold lkp; omega))]
    exact b1
/-! room, forget, log, clear, cost, best: each side by itself -/
theorem lJ_S {h h' : rk_S} (hJ : lJ h) (hS : SV (pN h) (pL h) (pC h) h') (he : ∀ b k, b ≠ 20 → b ≠ 21 → rk_get h' b k = rk_get h b k) : lJ h' := by
  obtain ⟨j1, j2, j3, j4, j5⟩ := hJ
  have hp : ∀ b k, lkp b k → rk_get h' b k = rk_get h b k := fun b k hb => he b k (by unfold lkp at hb; omega) (by unfold lkp at hb; omega)
  refine ⟨lJa_eq (fun b k hb => he b k (by unfold lka at hb; omega) (by unfold lka at hb; omega)) j1, lW_eq (fun b k hb => he b k (by omega) (by omega)) j2, ?_, lV_eq hp (fun b k _ z => he b k (by omega) (by omega)) j4, lG_eq (hp 2 5 (by unfold lkp; omega)) (fun b k hb => he b k (by omega) (by omega)) j5⟩
  unfold lS
  rw [pN_eq (hp 2 5 (by unfold lkp; omega)), pL_eq (fun k => hp 14 k (by unfold lkp; omega)), pC_eq (fun b k z1 z2 => hp b k (by unfold lkp; omega))]
  exact hS
theorem lJ_V {h h' : rk_S} (hJ : lJ h) (hV : VM (pN h) (pL h) (pC h) 0 h') (he : ∀ b k, ¬ (b = 316 ∧ (k = 4 ∨ k = 5 ∨ k = 21)) → ¬ (mtb 0 b k ∧ 322 ≤ b) → rk_get h' b k = rk_get h b k) : lJ h' := by
  obtain ⟨j1, j2, j3, j4, j5⟩ := hJ
  have he' : ∀ b k, ¬ (b = 316 ∧ (k = 4 ∨ k = 5 ∨ k = 21)) → (b ≤ 321 ∨ b = 344) → rk_get h' b k = rk_get h b k := fun b k z1 z2 => he b k z1 (fun z => by unfold mtb at z; omega)
  have hp : ∀ b k, lkp b k → rk_get h' b k = rk_get h b k := fun b k hb => he' b k (by unfold lkp at hb; omega) (by unfold lkp at hb; omega)
  refine ⟨lJa_eq (fun b k hb => he' b k (by unfold lka at hb; omega) (by unfold lka at hb; omega)) j1, lW_eq (fun b k hb => he' b k (by omega) (by omega)) j2, lS_eq hp (fun b k _ _ => he' b k (by omega) (by omega)) j3, ?_, lG_eq (hp 2 5 (by unfold lkp; omega)) (fun b k hb => he' b k (by omega) (by omega)) j5⟩
  unfold lV
  rw [pN_eq (hp 2 5 (by unfold lkp; omega)), pL_eq (fun k => hp 14 k (by unfold lkp; omega)), pC_eq (fun b k z1 z2 => hp b k (by unfold lkp; omega))]
  exact hV
theorem lJ_L {h h' : rk_S} (hJ : lJ h) (hL : LG (pN h) h') (he : ∀ b k, ¬ (b = 316 ∧ k = 45) → b ≠ 344 → rk_get h' b k = rk_get h b k) : lJ h' := by
  obtain ⟨j1, j2, j3, j4, j5⟩ := hJ
  have hp : ∀ b k, lkp b k → rk_get h' b k = rk_get h b k := fun b k hb => he b k (by unfold lkp at hb; omega) (by unfold lkp at hb; omega)
  refine ⟨lJa_eq (fun b k hb => he b k (by unfold lka at hb; omega) (by unfold lka at hb; omega)) j1, lW_eq (fun b k hb => he b k (by omega) (by omega)) j2, lS_eq hp (fun b k _ _ => he b k (by omega) (by omega)) j3, lV_eq hp (fun b k z1 z2 => he b k (by omega) (by unfold mtb at z1; omega)) j4, ?_⟩
  unfold lG
  rw [pN_eq (hp 2 5 (by unfold lkp; omega))]
  exact hL
theorem lJ_t1 {h h' : rk_S} (hJ : lJ h) (ht : t1f h h') : lJ h' := lJ_eq (fun b k hb => by
  unfold lkeep at hb
  by_cases e : 320 ≤ b ∧ b ≤ 333
  · have hm : mtb 0 b k := by
      rcases hb with z | z | z | z | z | z | z | z | z | z | z | z
      all_goals first | exact z.2.2 | (exfalso; omega)
    exact ht b k (by omega) (by unfold mtb at hm ⊢; omega) (by omega)
  · exact ht b k (by omega) (by unfold mtb; omega) (by omega)) hJ
section RK10
variable {D L : Nat} {xs : Nat → Int32} {h : rk_S}
theorem roomX_10 (hD : 1000 ≤ D) (hB : lB L xs h) (hJ : lJ h) (a b : Int32) : rk_wp D rm_X7_room 0 (lv_args 0 [.ref 1, .int a, .int b]) [] h (fun v h' => rk_Iv rk_Y h' ∧ (∀ k, rk_get h' 0 k = rk_get h 0 k) ∧ kJ v h') := by
  refine y_meth (R := kJ) k_75 rfl (Nat.le_trans (by decide) hD) hB.2.1 (fun k z => by have := lw13_PW z; omega) ⟨List.mem_cons_self, xany_ok a, xany_ok b, trivial⟩ (fun n o E => ?_)
  obtain ⟨⟨x, e⟩, q1, q2⟩ := rmX_S (yG_lB hB) hJ.2.2.1 E
  exact ⟨x, e, lJ_S hJ q1 q2⟩
theorem forgX_10 (hD : 1000 ≤ D) (hB : lB L xs h) (hJ : lJ h) : rk_wp D rm_X7_forget 0 (lv_args 0 [.ref 1]) [] h (fun v h' => rk_Iv rk_Y h' ∧ (∀ k, rk_get h' 0 k = rk_get h 0 k) ∧ kJ v h') := by
  refine y_meth (R := kJ) k_76 rfl (Nat.le_trans (by decide) hD) hB.2.1 (fun k z => by have := lw13_PW z; omega) ⟨List.mem_cons_self, trivial⟩ (fun n o E => ?_)
  obtain ⟨⟨x, e⟩, q1, q2⟩ := foX_S (yG_lB hB) hJ.2.2.1 E
  exact ⟨x, e, lJ_S hJ q1 (fun b k z1 z2 => q2 b k (by omega))⟩
theorem roomM_10 (hD : 1000 ≤ D) (hB : lB L xs h) (hJ : lJ h) (a b : Int32) : rk_wp D rm_X8_room 0 (lv_args 0 [.ref 316, .int a, .int b]) [] h (fun v h' => rk_Iv rk_Y h' ∧ (∀ k, rk_get h' 0 k = rk_get h 0 k) ∧ kJ v h') := by
  refine y_meth (R := kJ) k_124 rfl (Nat.le_trans (by decide) hD) hB.2.1 (fun k z => by have := lw13_RP z; omega) ⟨List.mem_cons_self, xany_ok a, xany_ok b, trivial⟩ (fun n o E => ?_)
  obtain ⟨⟨x, e⟩, q1, q2⟩ := rmM_V (yG_lB hB) hJ.2.2.2.1 E
  exact ⟨x, e, lJ_V hJ q1 q2⟩
theorem forgM_10 (hD : 1000 ≤ D) (hB : lB L xs h) (hJ : lJ h) : rk_wp D rm_X8_forget 0 (lv_args 0 [.ref 316]) [] h (fun v h' => rk_Iv rk_Y h' ∧ (∀ k, rk_get h' 0 k = rk_get h 0 k) ∧ kJ v h') := by
  refine y_meth (R := kJ) k_125 rfl (Nat.le_trans (by decide) hD) hB.2.1 (fun k z => by have := lw13_RP z; omega) ⟨List.mem_cons_self, trivial⟩ (fun n o E => ?_)
  obtain ⟨⟨x, e⟩, q1, q2⟩ := foM_V (yG_lB hB) E
  exact ⟨x, e, lJ_V hJ (VM_0 q1) (fun b k z1 z2 => q2 b k (fun z => z2 (by unfold mtb; omega)))⟩
theorem logM_10 (hD : 1000 ≤ D) (hB : lB L xs h) (hJ : lJ h) (r a b c : Int32) : rk_wp D rm_X8_log 0 (lv_args 0 [.ref 316, .int r, .int a, .int b, .int c]) [] h (fun v h' => rk_Iv rk_Y h' ∧ (∀ k, rk_get h' 0 k = rk_get h 0 k) ∧ kJ v h') := by
  refine y_meth (R := kJ) k_127 rfl (Nat.le_trans (by decide) hD) hB.2.1 (fun k z => by have := lw3_127 z; omega) ⟨List.mem_cons_self, xany_ok r, xany_ok a, xany_ok b, xany_ok c, trivial⟩ (fun n o E => ?_)
  have hP := p_MP hB.2.1 hJ.1.1
  obtain ⟨⟨x, e⟩, q1, q2⟩ := lgM_L (yG_lB hB) hP.1 hP.2.1 hJ.2.2.2.2 E
  exact ⟨x, e, lJ_L hJ q1 q2⟩
theorem cleaM_10 (hD : 1000 ≤ D) (hB : lB L xs h) (hJ : lJ h) : rk_wp D rm_X8_clear 0 (lv_args 0 [.ref 316]) [] h (fun v h' => rk_Iv rk_Y h' ∧ (∀ k, rk_get h' 0 k = rk_get h 0 k) ∧ kJ v h') := by
  refine y_meth (R := kJ) k_128 rfl (Nat.le_trans (by decide) hD) hB.2.1 (fun k z => by have := lw3_128 z; omega) ⟨List.mem_cons_self, trivial⟩ (fun n o E => ?_)
  obtain ⟨⟨x, e⟩, q1, q2⟩ := clM_L (yG_lB hB) E
  exact ⟨x, e, lJ_L hJ q1 (fun b k z1 z2 => q2 b k z1)⟩
theorem m_fac (hI : rk_Iv rk_Y h) (hC : lC3 h) : (∀ k, k < 10 → rk_iv h 317 k ≤ 40) ∧ ∀ r, r < 10 → pN h ≤ r → rk_iv h 317 r = 0 := by
  obtain ⟨M, f1, f2, f3, f4⟩ := y_mfacts hI hC
  have e : pN h = M := by
    have := (p_fac hI).1
    have := hC.1
    omega
  rw [e]
  exact ⟨f3, f4⟩
theorem costM_10 (hD : 1000 ≤ D) (hB : lB L xs h) (hJ : lJ h) (a b : Int32) : rk_wp D rm_X8_cost 0 (lv_args 0 [.ref 316, .int a, .int b]) [] h (fun v h' => rk_Iv rk_Y h' ∧ (∀ k, rk_get h' 0 k = rk_get h 0 k) ∧ kJ v h') := by
  refine y_meth (R := kJ) k_131 rfl (Nat.le_trans (by decide) hD) hB.2.1 (fun k z => by have := lw13_RP z; omega) ⟨List.mem_cons_self, xany_ok a, xany_ok b, trivial⟩ (fun n o E => ?_)
  obtain ⟨f3, f4⟩ := m_fac hB.2.1 hJ.1.1
  obtain ⟨x, h', e, -, q⟩ := co_ok (pP_u hB.2.1 hJ.1.1) (yG_lB hB) (p_MP hB.2.1 hJ.1.1) hJ.2.2.2.2 f3 f4 (pP_may hJ.1.1) E
  subst e
  exact ⟨x, rfl, lJ_t1 hJ q⟩
theorem bestM_10 (hD : 1000 ≤ D) (hB : lB L xs h) (hJ : lJ h) (a : Int32) : rk_wp D rm_X8_best 0 (lv_args 0 [.ref 316, .int a]) [] h (fun v h' => rk_Iv rk_Y h' ∧ (∀ k, rk_get h' 0 k = rk_get h 0 k) ∧ kJ v h') := by
  refine y_meth (R := kJ) k_133 rfl (Nat.le_trans (by decide) hD) hB.2.1 (fun k z => by have := lw13_RP z; omega) ⟨List.mem_cons_self, xany_ok a, trivial⟩ (fun n o E => ?_)
  obtain ⟨f3, f4⟩ := m_fac hB.2.1 hJ.1.1
  obtain ⟨x, h', e, -, q⟩ := be_ok (pP_u hB.2.1 hJ.1.1) (yG_lB hB) (p_MP hB.2.1 hJ.1.1) hJ.2.2.2.2 f3 f4 (pP_may hJ.1.1) E
  subst e
  exact ⟨x, rfl, lJ_t1 hJ q⟩
theorem logX_10 (hD : 1000 ≤ D) (hB : lB L xs h) (hJ : lJ h) (r a b c : Int32) : rk_wp D rm_X7_log 0 (lv_args 0 [.ref 1, .int r, .int a, .int b, .int c]) [] h (fun v h' => rk_Iv rk_Y h' ∧ (∀ k, rk_get h' 0 k = rk_get h 0 k) ∧ kJ v h') := kJ_con k_78 rfl (Nat.le_trans (by decide) hD) hB.2.1 hJ (fun b k hb z => by have := lw3_78 z; unfold lkeep at hb; omega) rfl ⟨List.mem_cons_self, xany_ok r, xany_ok a, xany_ok b, xany_ok c, trivial⟩
theorem cleaX_10 (hD : 1000 ≤ D) (hB : lB L xs h) (hJ : lJ h) : rk_wp D rm_X7_clear 0 (lv_args 0 [.ref 1]) [] h (fun v h' => rk_Iv rk_Y h' ∧ (∀ k, rk_get h' 0 k = rk_get h 0 k) ∧ kJ v h') := kJ_con k_79 rfl (Nat.le_trans (by decide) hD) hB.2.1 hJ (fun b k hb z => by have := lw3_79 z; unfold lkeep at hb; omega) rfl ⟨List.mem_cons_self, trivial⟩
theorem costX_10 (hD : 1000 ≤ D) (hB : lB L xs h) (hJ : lJ h) (a b : Int32) : rk_wp D rm_X7_cost 0 (lv_args 0 [.ref 1, .int a, .int b]) [] h (fun v h' => rk_Iv rk_Y h' ∧ (∀ k, rk_get h' 0 k = rk_get h 0 k) ∧ kJ v h') := kJ_con k_80t rfl (Nat.le_trans (by decide) hD) hB.2.1 hJ (fun b k hb z => by have := lw10_T z; unfold lkeep at hb; omega) rfl ⟨List.mem_cons_self, xany_ok a, xany_ok b, trivial⟩
theorem bestX_10 (hD : 1000 ≤ D) (hB : lB L xs h) (hJ : lJ h) (a : Int32) : rk_wp D rm_X7_best 0 (lv_args 0 [.ref 1, .int a]) [] h (fun v h' => rk_Iv rk_Y h' ∧ (∀ k, rk_get h' 0 k = rk_get h 0 k) ∧ kJ v h') := kJ_con k_81t rfl (Nat.le_trans (by decide) hD) hB.2.1 hJ (fun b k hb z => by have := lw10_T z; unfold lkeep at hb; omega) rfl ⟨List.mem_cons_self, xany_ok a, trivial⟩
/-! store, held, lot, answer -/
def sX10 (cl : Nat) (h : rk_S) (s : Int) (w : Int32) (v : Option Value) (h' : rk_S) : Prop := ∃ x : Int32, v = some (.int x) ∧ (((s < 0 ∨ 16 ≤ s) ∧ x = 0 ∧ h' = h) ∨ (0 ≤ s ∧ s < 16 ∧ x = gi h cl s.toNat ∧ h' = rk_pt h cl s.toNat (.int w)))
theorem storX_10 (hD : 1000 ≤ D) (hB : lB L xs h) (s w : Int32) : rk_wp D rm_X7_store 0 (lv_args 0 [.ref 1, .int s, .int w]) [] h (fun v h' => rk_Iv rk_Y h' ∧ (∀ k, rk_get h' 0 k = rk_get h 0 k) ∧ sX10 19 h s.toInt w v h') := by
  refine y_meth (R := sX10 19 h s.toInt w) k_66 rfl (Nat.le_trans (by decide) hD) hB.2.1 (fun k z => by have := lw13_PW z; omega) ⟨List.mem_cons_self, xany_ok s, xany_ok w, trivial⟩ (fun n o E => ?_)
  rcases yq_st (yG_lB hB) E with ⟨c1, -, rfl⟩ | ⟨c1, c2, -, rfl⟩ | ⟨c1, c2, -, rfl⟩
  · exact ⟨_, rfl, Or.inl ⟨Or.inl c1, rfl, rfl⟩⟩
  · exact ⟨_, rfl, Or.inl ⟨Or.inr c2, rfl, rfl⟩⟩
  · rw [y_ix (show s.toInt = (s.toInt.toNat : Nat) by omega)]
    exact ⟨_, rfl, Or.inr ⟨by omega, by omega, rfl, rfl⟩⟩
theorem storM_10 (hD : 1000 ≤ D) (hB : lB L xs h) (s w : Int32) : rk_wp D rm_X8_store 0 (lv_args 0 [.ref 316, .int s, .int w]) [] h (fun v h' => rk_Iv rk_Y h' ∧ (∀ k, rk_get h' 0 k = rk_get h 0 k) ∧ sX10 320 h s.toInt w v h') := by
  refine y_meth (R := sX10 320 h s.toInt w) k_95 rfl (Nat.le_trans (by decide) hD) hB.2.1 (fun k z => by have := lw13_RP z; omega) ⟨List.mem_cons_self, xany_ok s, xany_ok w, trivial⟩ (fun n o E => ?_)
  rcases yq_mst (yG_lB hB) E with ⟨c1, -, rfl⟩ | ⟨c1, c2, -, rfl⟩ | ⟨c1, c2, -, rfl⟩
  · exact ⟨_, rfl, Or.inl ⟨Or.inl c1, rfl, rfl⟩⟩
  · exact ⟨_, rfl, Or.inl ⟨Or.inr (by omega), rfl, rfl⟩⟩
  · rw [y_ix (show s.toInt = (s.toInt.toNat : Nat) by omega)]
    exact ⟨_, rfl, Or.inr ⟨by omega, by omega, rfl, rfl⟩⟩
theorem lJ_W {h' : rk_S} (hJ : lJ h) (hW : lW h') (he : ∀ b k, ¬ (b = 18 ∧ k = 1) → b ≠ 19 → b ≠ 320 → b ≠ 321 → rk_get h' b k = rk_get h b k) : lJ h' := by
  obtain ⟨j1, j2, j3, j4, j5⟩ := hJ
  have hp : ∀ b k, lkp b k → rk_get h' b k = rk_get h b k := fun b k hb => he b k (by unfold lkp at hb; omega) (by unfold lkp at hb; omega) (by unfold lkp at hb; omega) (by unfold lkp at hb; omega)
  exact ⟨lJa_eq (fun b k hb => he b k (by unfold lka at hb; omega) (by unfold lka at hb; omega) (by unfold lka at hb; omega) (by unfold lka at hb; omega)) j1, hW, lS_eq hp (fun b k _ _ => he b k (by omega) (by omega) (by omega) (by omega)) j3, lV_eq hp (fun b k z1 z2 => he b k (by omega) (by omega) (by omega) (by omega)) j4, lG_eq (hp 2 5 (by unfold lkp; omega)) (fun b k hb => he b k (by omega) (by omega) (by omega) (by omega)) j5⟩
set_option maxRecDepth 100000 in
theorem yln_w10 : yln 19 = 16 ∧ yln 18 = 2 := ⟨rfl, rfl⟩
theorem stor_pair {h1 h2 : rk_S} {s : Int} {w : Int32} {v1 v2 : Option Value} (hB : lB L xs h) (hB1 : lB L xs h1) (hJ : lJ h) (p1 : sX10 19 h s w v1 h1) (p2 : sX10 320 h1 s w v2 h2) : ∃ x1 x2 : Int32, v1 = some (.int x1) ∧ v2 = some (.int x2) ∧ x1.toInt = x2.toInt ∧ lJ h2 := by
  have hG := yG_lB hB
  have hG1 := yG_lB hB1
  obtain ⟨x1, rfl, p1⟩ := p1
  obtain ⟨x2, rfl, p2⟩ := p2
  refine ⟨x1, x2, rfl, rfl, ?_⟩
  obtain ⟨w1, w2, w3⟩ := hJ.2.1
  rcases p1 with ⟨a1, rfl, rfl⟩ | ⟨a1, a2, rfl, rfl⟩
  · rcases p2 with ⟨b1, rfl, rfl⟩ | ⟨b1, b2, rfl, rfl⟩
    · exact ⟨rfl, hJ⟩
    · omega
  · rcases p2 with ⟨b1, rfl, rfl⟩ | ⟨b1, b2, rfl, rfl⟩
    · omega
    · refine ⟨by rw [gi_x (by decide), w1 s.toNat (by omega)], lJ_W hJ ⟨fun t ht => ?_, ?_, ?_⟩ (fun b k z1 z2 z3 z4 => (rk_get_ne (by omega)).trans (rk_get_ne (by omega)))⟩
      · by_cases e : t = s.toNat
        · subst e
          rw [gi_x (by decide), gi_s (hG.yE (by decide) (by decide) (by rw [yln_w10.1]; omega)), gi_s (hG1.yE (by decide) (by decide) (by rw [yln_m.2.2.2.2.1]; omega))]
        · rw [gi_x (by decide), gi_y (by omega), gi_y (by omega), gi_x (by decide)]
          exact w1 t ht
      · rw [gi_x (by decide), gi_x (by decide), gi_x (by decide), gi_x (by decide)]
        exact w2
      · rw [gi_x (by decide), gi_x (by decide), gi_x (by decide), gi_x (by decide)]
        exact w3
def loX (cl kl : Nat) (h : rk_S) (w : Int32) (v : Option Value) (h' : rk_S) : Prop := ∃ x : Int32, v = some (.int x) ∧ x = gi h cl kl ∧ h' = rk_pt h cl kl (.int w)
theorem lotX_10 (hD : 1000 ≤ D) (hB : lB L xs h) (w : Int32) : rk_wp D rm_X7_lot 0 (lv_args 0 [.ref 1, .int w]) [] h (fun v h' => rk_Iv rk_Y h' ∧ (∀ k, rk_get h' 0 k = rk_get h 0 k) ∧ loX 18 1 h w v h') := by
  refine y_meth (R := loX 18 1 h w) k_68 rfl (Nat.le_trans (by decide) hD) hB.2.1 (fun k z => by have := lw13_PW z; omega) ⟨List.mem_cons_self, xany_ok w, trivial⟩ (fun n o E => ?_)
  obtain ⟨-, rfl⟩ := yq_lo (yG_lB hB) E
  exact ⟨_, rfl, rfl, rfl⟩
theorem lotM_10 (hD : 1000 ≤ D) (hB : lB L xs h) (w : Int32) : rk_wp D rm_X8_lot 0 (lv_args 0 [.ref 316, .int w]) [] h (fun v h' => rk_Iv rk_Y h' ∧ (∀ k, rk_get h' 0 k = rk_get h 0 k) ∧ loX 321 0 h w v h') := by
  refine y_meth (R := loX 321 0 h w) k_97 rfl (Nat.le_trans (by decide) hD) hB.2.1 (fun k z => by have := lw13_RP z; omega) ⟨List.mem_cons_self, xany_ok w, trivial⟩ (fun n o E => ?_)
  obtain ⟨-, rfl⟩ := yq_mlo (yG_lB hB) E
  exact ⟨_, rfl, rfl, rfl⟩
theorem lot_pair {h1 h2 : rk_S} {w : Int32} {v1 v2 : Option Value} (hB : lB L xs h) (hB1 : lB L xs h1) (hJ : lJ h) (p1 : loX 18 1 h w v1 h1) (p2 : loX 321 0 h1 w v2 h2) : ∃ x1 x2 : Int32, v1 = some (.int x1) ∧ v2 = some (.int x2) ∧ x1.toInt = x2.toInt ∧ lJ h2 := by
  have hG := yG_lB hB
  have hG1 := yG_lB hB1
  obtain ⟨x1, rfl, rfl, rfl⟩ := p1
  obtain ⟨x2, rfl, rfl, rfl⟩ := p2
  obtain ⟨w1, w2, w3⟩ := hJ.2.1
  refine ⟨_, _, rfl, rfl, by rw [gi_x (by decide), w2], lJ_W hJ ⟨fun t ht => ?_, ?_, ?_⟩ (fun b k z1 z2 z3 z4 => (rk_get_ne (by omega)).trans (rk_get_ne (by omega)))⟩
  · rw [gi_x (by decide), gi_x (by decide), gi_x (by decide), gi_x (by decide)]
    exact w1 t ht
  · rw [gi_x (by decide), gi_s (hG.yE (by decide) (by decide) (by rw [yln_w10.2]; decide)), gi_s (hG1.yE (by decide) (by decide) (by rw [yln_m.2.2.2.2.2.1]; decide))]
  · rw [gi_x (by decide), gi_x (by decide), gi_x (by decide), gi_x (by decide)]
    exact w3
def heX (cl : Nat) (h : rk_S) (s : Int) (v : Option Value) (h' : rk_S) : Prop := ∃ x : Int32, v = some (.int x) ∧ h' = h ∧ (((s < 0 ∨ 16 ≤ s) ∧ x = 0) ∨ (0 ≤ s ∧ s < 16 ∧ x = gi h cl s.toNat))
theorem heldX_10 (hD : 1000 ≤ D) (hB : lB L xs h) (s : Int32) : rk_wp D rm_X7_held 0 (lv_args 0 [.ref 1, .int s]) [] h (fun v h' => rk_Iv rk_Y h' ∧ (∀ k, rk_get h' 0 k = rk_get h 0 k) ∧ heX 19 h s.toInt v h') := by
  refine y_meth (R := heX 19 h s.toInt) k_67 rfl (Nat.le_trans (by decide) hD) hB.2.1 (fun k z => by have := lw13_PW z; omega) ⟨List.mem_cons_self, xany_ok s, trivial⟩ (fun n o E => ?_)
  rcases yq_he (yG_lB hB) E with ⟨c1, -, rfl⟩ | ⟨c1, c2, -, rfl⟩ | ⟨c1, c2, -, rfl⟩
  · exact ⟨_, rfl, rfl, Or.inl ⟨Or.inl c1, rfl⟩⟩
  · exact ⟨_, rfl, rfl, Or.inl ⟨Or.inr c2, rfl⟩⟩
  · rw [y_ix (show s.toInt = (s.toInt.toNat : Nat) by omega)]
    exact ⟨_, rfl, rfl, Or.inr ⟨by omega, by omega, rfl⟩⟩
theorem heldM_10 (hD : 1000 ≤ D) (hB : lB L xs h) (s : Int32) : rk_wp D rm_X8_held 0 (lv_args 0 [.ref 316, .int s]) [] h (fun v h' => rk_Iv rk_Y h' ∧ (∀ k, rk_get h' 0 k = rk_get h 0 k) ∧ heX 320 h s.toInt v h') := by
  refine y_meth (R := heX 320 h s.toInt) k_96 rfl (Nat.le_trans (by decide) hD) hB.2.1 (fun k z => by have := lw13_RP z; omega) ⟨List.mem_cons_self, xany_ok s, trivial⟩ (fun n o E => ?_)
  rcases yq_mhe (yG_lB hB) E with ⟨c1, -, rfl⟩ | ⟨c1, c2, -, rfl⟩ | ⟨c1, c2, -, rfl⟩
  · exact ⟨_, rfl, rfl, Or.inl ⟨Or.inl c1, rfl⟩⟩
  · exact ⟨_, rfl, rfl, Or.inl ⟨Or.inr (by omega), rfl⟩⟩
  · rw [y_ix (show s.toInt = (s.toInt.toNat : Nat) by omega)]
    exact ⟨_, rfl, rfl, Or.inr ⟨by omega, by omega, rfl⟩⟩
theorem held_pair {h1 h2 : rk_S} {s : Int} {v1 v2 : Option Value} (hJ : lJ h) (p1 : heX 19 h s v1 h1) (p2 : heX 320 h1 s v2 h2) : ∃ x1 x2 : Int32, v1 = some (.int x1) ∧ v2 = some (.int x2) ∧ x1.toInt = x2.toInt ∧ lJ h2 := by
  obtain ⟨x1, rfl, rfl, p1⟩ := p1
  obtain ⟨x2, rfl, rfl, p2⟩ := p2
  refine ⟨x1, x2, rfl, rfl, ?_, hJ⟩
  rcases p1 with ⟨a1, rfl⟩ | ⟨a1, a2, rfl⟩
  · rcases p2 with ⟨b1, rfl⟩ | ⟨b1, b2, rfl⟩
    · rfl
    · omega
  · rcases p2 with ⟨b1, rfl⟩ | ⟨b1, b2, rfl⟩
    · omega
    · rw [hJ.2.1.1 s.toNat (by omega)]
def anX (cl kl : Nat) (h : rk_S) (v : Option Value) (h' : rk_S) : Prop := ∃ x : Int32, v = some (.int x) ∧ h' = h ∧ x = gi h cl kl
theorem ansX_10 (hD : 1000 ≤ D) (hB : lB L xs h) : rk_wp D rm_X7_answer 0 (lv_args 0 [.ref 1]) [] h (fun v h' => rk_Iv rk_Y h' ∧ (∀ k, rk_get h' 0 k = rk_get h 0 k) ∧ anX 118 11 h v h') := by
  refine y_meth (R := anX 118 11 h) k_72 rfl (Nat.le_trans (by decide) hD) hB.2.1 (fun k z => by have := lw13_PW z; omega) ⟨List.mem_cons_self, trivial⟩ (fun n o E => ?_)
  obtain ⟨-, rfl⟩ := yq_an (yG_lB hB) E
  exact ⟨_, rfl, rfl, rfl⟩
theorem ansM_10 (hD : 1000 ≤ D) (hB : lB L xs h) : rk_wp D rm_X8_answer 0 (lv_args 0 [.ref 316]) [] h (fun v h' => rk_Iv rk_Y h' ∧ (∀ k, rk_get h' 0 k = rk_get h 0 k) ∧ anX 316 44 h v h') := by
  refine y_meth (R := anX 316 44 h) k_121 rfl (Nat.le_trans (by decide) hD) hB.2.1 (fun k z => by have := lw13_RP z; omega) ⟨List.mem_cons_self, trivial⟩ (fun n o E => ?_)
  obtain ⟨-, rfl⟩ := yq_man (yG_lB hB) E
  exact ⟨_, rfl, rfl, rfl⟩
theorem ans_pair {h1 h2 : rk_S} {v1 v2 : Option Value} (hJ : lJ h) (p1 : anX 118 11 h v1 h1) (p2 : anX 316 44 h1 v2 h2) : ∃ x1 x2 : Int32, v1 = some (.int x1) ∧ v2 = some (.int x2) ∧ x1.toInt = x2.toInt ∧ lJ h2 := by
  obtain ⟨x1, rfl, rfl, rfl⟩ := p1
  obtain ⟨x2, rfl, rfl, rfl⟩ := p2
  exact ⟨_, _, rfl, rfl, by rw [hJ.2.1.2.2], hJ⟩
/-! run -/
def eW (c : Nat) (h : rk_S) : eS := fun s => if s < 16 then gi h c s else 0
theorem eW_lt {c s : Nat} {h : rk_S} (hs : s < 16) : eW c h s = gi h c s := if_pos hs
theorem eW_eq {c c' : Nat} {h h' : rk_S} (he : ∀ s, s < 16 → gi h' c' s = gi h c s) : eW c' h' = eW c h := by
  funext s
  unfold eW
  split
  · exact he s (by assumption)
  · rfl
def ruX (h : rk_S) (r a b c : Int32) (v : Option Value) (h' : rk_S) : Prop := ∃ y : Int32, v = some (.int y) ∧ (((r.toInt < 0 ∨ (pN h : Int) ≤ r.toInt) ∧ y = -1 ∧ h' = h) ∨
  ∃ (rn e : Nat) (w : Int32) (S' : eS) (L' : Int32) (st' : Nat) (sr : eB) (wi : Nat) (nr : eB), r.toInt = rn ∧ rn < pN h ∧ EV false (pN h) (pL h) (pC h) 11 rn (e3 a b c) (eW 19 h) (gi h 18 1) 0 = (e, w, S', L', st', sr, wi, nr) ∧ y.toInt = tel e ∧ gi h' 118 11 = w ∧ SV (pN h) (pL h) (pC h) h' ∧ WD h' S' L' ∧ ∀ b k, b < 18 ∨ 156 ≤ b → ¬ (b = 1 ∧ k = 9) → rk_get h' b k = rk_get h b k)
def ruM (h : rk_S) (r a b c : Int32) (v : Option Value) (h' : rk_S) : Prop := ∃ y : Int32, v = some (.int y) ∧ (((r.toInt < 0 ∨ (pN h : Int) ≤ r.toInt) ∧ y = -1 ∧ h' = h) ∨
  ∃ (rn e : Nat) (w : Int32) (S' : eS) (L' : Int32) (st' : Nat) (sr : eB) (wi : Nat) (nr : eB), r.toInt = rn ∧ rn < pN h ∧ EV true (pN h) (pL h) (pC h) 11 rn (e3 a b c) (eW 320 h) (gi h 321 0) 0 = (e, w, S', L', st', sr, wi, nr) ∧ y.toInt = tel e ∧ gi h' 316 44 = w ∧ VM (pN h) (pL h) (pC h) 0 h' ∧ MW 0 h' S' L' ∧ ∀ b k, ¬ (b = 316 ∧ ((20 ≤ k ∧ k ≤ 24) ∨ (34 ≤ k ∧ k ≤ 44))) → ¬ mtb 0 b k → ¬ (334 ≤ b ∧ b ≤ 343) → rk_get h' b k = rk_get h b k)
theorem runX_10 (hD : 1000 ≤ D) (hB : lB L xs h) (hJ : lJ h) (r a b c : Int32) : rk_wp D rm_X7_run 0 (lv_args 0 [.ref 1, .int r, .int a, .int b, .int c]) [] h (fun v h' => rk_Iv rk_Y h' ∧ (∀ k, rk_get h' 0 k = rk_get h 0 k) ∧ ruX h r a b c v h') := by
  refine y_meth (R := ruX h r a b c) k_71 rfl (Nat.le_trans (by decide) hD) hB.2.1 (fun k z => by have := lw13_71 z; omega) ⟨List.mem_cons_self, xany_ok r, xany_ok a, xany_ok b, xany_ok c, trivial⟩ (fun n o E => ?_)
  have h10 := (p_fac hB.2.1).2.1
  rcases cru_ok (S := eW 19 h) (L := gi h 18 1) (pP_u hB.2.1 hJ.1.1) (yG_lB hB) (p_PR hB.2.1 hJ.1.1) (fun r hr hb => pP_told hJ.1 hr (by omega) hb) hJ.2.2.1 ⟨fun s hs => (eW_lt hs).symm, rfl⟩ E with ⟨c1, rfl⟩ | ⟨rn, y, h', e, w, S', L', st', sr, wi, nr, q1, q2, rfl, q3, q4, q5, -, q6, q7, q8⟩
  · exact ⟨_, rfl, Or.inl ⟨c1, rfl, rfl⟩⟩
  · exact ⟨_, rfl, Or.inr ⟨rn, e, w, S', L', st', sr, wi, nr, q1, q2, q3, q4, q5, q6, q7, q8⟩⟩
theorem ty_3164 : x_fok 316 4 [(0, 32)] = true := by decide +kernel
theorem runM_10 (hD : 1000 ≤ D) (hB : lB L xs h) (hJ : lM h) (r a b c : Int32) : rk_wp D rm_X8_run 0 (lv_args 0 [.ref 316, .int r, .int a, .int b, .int c]) [] h (fun v h' => rk_Iv rk_Y h' ∧ (∀ k, rk_get h' 0 k = rk_get h 0 k) ∧ ruM h r a b c v h') := by
  refine y_meth (R := ruM h r a b c) k_120 rfl (Nat.le_trans (by decide) hD) hB.2.1 (fun k z => by have := lw13_RP z; omega) ⟨List.mem_cons_self, xany_ok r, xany_ok a, xany_ok b, xany_ok c, trivial⟩ (fun n o E => ?_)
  obtain ⟨x4, -, n2, n3⟩ := x_fok_ok hB.2.1 ty_3164
  rw [← n3] at n2
  have n4 := x_one1 n2
  rcases mru_ok (rm := (rk_iv h 316 4).toNat) (S := eW 320 h) (L := gi h 321 0) (pP_u hB.2.1 hJ.1.1) (yG_lB hB) (p_MP hB.2.1 hJ.1.1) hJ.2.1 (pP_toldM hB.2.1 hJ.1) (by rw [gi_iv]; omega) (by omega) ⟨fun s hs => by rw [Nat.mul_zero, Nat.zero_add, eW_lt hs], rfl⟩ E with ⟨c1, rfl⟩ | ⟨rn, y, h', e, w, S', L', st', sr, wi, nr, q1, q2, rfl, q3, q4, q5, -, q6, q7, q8⟩
  · exact ⟨_, rfl, Or.inl ⟨c1, rfl, rfl⟩⟩
  · exact ⟨_, rfl, Or.inr ⟨rn, e, w, S', L', st', sr, wi, nr, q1, q2, q3, q4, q5, q6, q7, q8⟩⟩
theorem run_mid {h1 : rk_S} {r a b c : Int32} {v1 : Option Value} (hJ : lJ h) (p1 : ruX h r a b c v1 h1) : lM h1 := by
  obtain ⟨y, -, p⟩ := p1
  rcases p with ⟨-, -, rfl⟩ | ⟨rn, e, w, S', L', st', sr, wi, nr, -, -, -, -, -, -, -, q8⟩
  · exact lM_J hJ
  · exact lM_eq (fun b k hb => q8 b k (by omega) (by omega)) (lM_J hJ)
theorem run_pair {h1 h2 : rk_S} {r a b c : Int32} {v1 v2 : Option Value} (hJ : lJ h) (p1 : ruX h r a b c v1 h1) (p2 : ruM h1 r a b c v2 h2) : ∃ x1 x2 : Int32, v1 = some (.int x1) ∧ v2 = some (.int x2) ∧ x1.toInt = x2.toInt ∧ lJ h2 := by
  obtain ⟨y1, rfl, p1⟩ := p1
  obtain ⟨y2, rfl, p2⟩ := p2
  refine ⟨y1, y2, rfl, rfl, ?_⟩
  rcases p1 with ⟨a1, rfl, rfl⟩ | ⟨rn, e, w, S', L', st', sr, wi, nr, a1, a2, a3, a4, a5, a6, a7, a8⟩
  · rcases p2 with ⟨b1, rfl, rfl⟩ | ⟨rm, e', w', S2, L2, st2, sr2, wi2, nr2, b1, b2, b3, b4, b5, b6, b7, b8⟩
    · exact ⟨rfl, hJ⟩
    · omega
  have hp : ∀ b k, lkp b k → rk_get h1 b k = rk_get h b k := fun b k hb => a8 b k (by unfold lkp at hb; omega) (by unfold lkp at hb; omega)
  rw [pN_eq (hp 2 5 (by unfold lkp; omega)), pL_eq (fun k => hp 14 k (by unfold lkp; omega)), pC_eq (fun b k z1 z2 => hp b k (by unfold lkp; omega))] at p2
  rcases p2 with ⟨b1, rfl, rfl⟩ | ⟨rm, e', w', S2, L2, st2, sr2, wi2, nr2, b1, b2, b3, b4, b5, b6, b7, b8⟩
  · omega
  obtain ⟨j1, j2, j3, j4, j5⟩ := hJ
  have er : rm = rn := by omega
  subst er
  rw [eW_eq (c := 19) (h := h) (fun s hs => by rw [gi_eq (a8 320 s (by omega) (by omega))]; exact (j2.1 s hs).symm), gi_eq (a8 321 0 (by omega) (by omega)), ← j2.2.1] at b3
  obtain ⟨sr3, nr3, ev⟩ := fl_EV (fl2 := true) _ _ _ _ _ _ _ _ _ _ _ _ _ _ a3
  rw [ev] at b3
  cases b3
  have fr : ∀ b k, b < 18 ∨ 156 ≤ b → ¬ (b = 1 ∧ k = 9) → ¬ (b = 316 ∧ ((20 ≤ k ∧ k ≤ 24) ∨ (34 ≤ k ∧ k ≤ 44))) → ¬ (320 ≤ b ∧ b ≤ 343) → rk_get h2 b k = rk_get h b k := fun b k z1 z2 z3 z4 => (b8 b k z3 (by unfold mtb; omega) (by omega)).trans (a8 b k z1 z2)
  have f1 : ∀ b k, b < 316 → rk_get h2 b k = rk_get h1 b k := fun b k hb => b8 b k (by omega) (by unfold mtb; omega) (by omega)
  have hp2 : ∀ b k, lkp b k → rk_get h2 b k = rk_get h b k := fun b k hb => fr b k (by unfold lkp at hb; omega) (by unfold lkp at hb; omega) (by unfold lkp at hb; omega) (by unfold lkp at hb; omega)
  refine ⟨by omega, lJa_eq (fun b k hb => fr b k (by unfold lka at hb; omega) (by unfold lka at hb; omega) (by unfold lka at hb; omega) (by unfold lka at hb; omega)) j1, ⟨fun s hs => ?_, ?_, ?_⟩, ?_, ?_, lG_eq (hp2 2 5 (by unfold lkp; omega)) (fun b k hb => fr b k (by omega) (by omega) (by omega) (by omega)) j5⟩
  · have := b7.1 s hs
    rw [Nat.mul_zero, Nat.zero_add] at this
    rw [gi_eq (f1 19 s (by omega)), a7.1 s hs, this]
  · rw [gi_eq (f1 18 1 (by omega)), a7.2, b7.2]
  · rw [gi_eq (f1 118 11 (by omega)), a5, b5]
  · unfold lS
    rw [pN_eq (hp2 2 5 (by unfold lkp; omega)), pL_eq (fun k => hp2 14 k (by unfold lkp; omega)), pC_eq (fun b k z1 z2 => hp2 b k (by unfold lkp; omega))]
    exact SV_fr (fun b k _ _ => f1 b k (by omega)) a6
  · unfold lV
    rw [pN_eq (hp2 2 5 (by unfold lkp; omega)), pL_eq (fun k => hp2 14 k (by unfold lkp; omega)), pC_eq (fun b k z1 z2 => hp2 b k (by unfold lkp; omega))]
    exact b6
end RK10
