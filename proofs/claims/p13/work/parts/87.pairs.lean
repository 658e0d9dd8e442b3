/-! routine, code and keep over the shared state -/
theorem K1_zero {h : rk_S} (hK : K1 h) {r : Nat} (hr : r < 10) : rk_iv h 15 r = 0 ↔ ∀ b, ¬ may (cds h) 15 r b := by
  rw [← gi_iv, bt_none0]
  exact ⟨fun z b w => z b ((hK.2 15 (Or.inl rfl) r hr b).mpr w), fun z b w => z b ((hK.2 15 (Or.inl rfl) r hr b).mp w)⟩
theorem may_cc {h : rk_S} (hC : lC3 h) (cl r b : Nat) : may (cds h) cl r b ↔ may (cdm h) cl r b := may_iff (fun q c hq => cds_cdm hC hq c) cl r b
def rX13 (h : rk_S) (v : Option Value) (h' : rk_S) : Prop := ∃ x : Int32, v = some (.int x) ∧ rPostX h v h' ∧ gi h' 1 8 = gi h 1 8
def rM13 (h : rk_S) (v : Option Value) (h' : rk_S) : Prop := ∃ x : Int32, v = some (.int x) ∧ rPostM h v h' ∧ ((rk_iv h' 316 0 = rk_iv h 316 0 ∧ ∀ r, rk_iv h' 319 r = rk_iv h 319 r) ∨ (∀ r : Nat, (r : Int) ≠ rk_iv h 316 0 → rk_iv h' 319 r = rk_iv h 319 r) ∧ rk_iv h' 319 (rk_iv h 316 0).toNat = 0)
theorem routX_p {n d : Nat} {h : rk_S} {o : Option Value × rk_S} (hG : yG h) (E : rk_ex n d rm_X7_routine 0 [(0, .ref 1)] [] h = some o) : gi o.2 1 8 = gi h 1 8 := by
  rcases yt_rou0 hG E with ⟨-, -, rfl⟩ | ⟨-, -, rfl⟩
  · exact (gi_x (by decide)).trans (gi_x (by decide))
  · rfl
theorem routX_13 {D L : Nat} {xs : Nat → Int32} {h : rk_S} (hD : 20 ≤ D) (hB : lB L xs h) : rk_wp D rm_X7_routine 0 (lv_args 0 [.ref 1]) [] h (fun v h' => rk_Iv rk_Y h' ∧ (∀ k, rk_get h' 0 k = rk_get h 0 k) ∧ rX13 h v h') := by
  refine wp_weak (wp_and (routX_2 hD hB.2.1) (Q' := fun _ h' => gi h' 1 8 = gi h 1 8) (fun n o E => routX_p (yG_lB hB) E)) (fun v h' hv => ?_)
  obtain ⟨⟨h1, h2, h3⟩, h4⟩ := hv
  obtain ⟨x, e, -⟩ := id h3
  exact ⟨h1, h2, x, e, h3, h4⟩
theorem routM_p {n d : Nat} {h : rk_S} {o : Option Value × rk_S} (hG : yG h) (hI : rk_Iv rk_Y h) (E : rk_ex n d rm_X8_routine 0 [(0, .ref 316)] [] h = some o) : (rk_iv o.2 316 0 = rk_iv h 316 0 ∧ ∀ r, rk_iv o.2 319 r = rk_iv h 319 r) ∨ (∀ r : Nat, (r : Int) ≠ rk_iv h 316 0 → rk_iv o.2 319 r = rk_iv h 319 r) ∧ rk_iv o.2 319 (rk_iv h 316 0).toNat = 0 := by
  obtain ⟨xn, -, n2, n3⟩ := x_fok_ok hI ty_3160
  rw [← n3] at n2
  have n4 := x_one1 n2
  have en : (gi h 316 0).toNatClampNeg = (rk_iv h 316 0).toNat := y_ix (by rw [gi_iv]; omega)
  have A := yt_mrou hG E
  rw [en] at A
  rcases A with ⟨c1, -, rfl⟩ | ⟨c1, -, rfl⟩
  · rw [gi_iv] at c1
    refine Or.inr ⟨fun r hr => ?_, ?_⟩
    · dsimp only
      rw [rk_iv_eq (rk_get_ne (Or.inl (by decide))), rk_iv_eq (rk_get_ne (Or.inl (by decide))), rk_iv_eq (rk_get_ne (Or.inr (by omega))), rk_iv_eq (rk_get_ne (Or.inl (by decide)))]
    · dsimp only
      obtain ⟨_, w9, -, -, -, -, x9⟩ := hG.at (a := 319) (k := (rk_iv h 316 0).toNat) (by decide) (by decide) (by rw [yln_319.1]; omega)
      rw [rk_iv_eq (rk_get_ne (Or.inl (by decide))), rk_iv_eq (rk_get_ne (Or.inl (by decide))), ← gi_iv, gi_self (w := w9) (by rw [rk_get_ne (Or.inl (by decide))]; exact x9)]
      rfl
  · exact Or.inl ⟨rfl, fun _ => rfl⟩
theorem routM_13 {D L : Nat} {xs : Nat → Int32} {h : rk_S} (hD : 20 ≤ D) (hB : lB L xs h) : rk_wp D rm_X8_routine 0 (lv_args 0 [.ref 316]) [] h (fun v h' => rk_Iv rk_Y h' ∧ (∀ k, rk_get h' 0 k = rk_get h 0 k) ∧ rM13 h v h') := by
  refine wp_weak (wp_and (routM_2 hD hB.2.1) (Q' := fun _ h' => (rk_iv h' 316 0 = rk_iv h 316 0 ∧ ∀ r, rk_iv h' 319 r = rk_iv h 319 r) ∨ (∀ r : Nat, (r : Int) ≠ rk_iv h 316 0 → rk_iv h' 319 r = rk_iv h 319 r) ∧ rk_iv h' 319 (rk_iv h 316 0).toNat = 0) (fun n o E => routM_p (yG_lB hB) hB.2.1 E)) (fun v h' hv => ?_)
  obtain ⟨⟨h1, h2, h3⟩, h4⟩ := hv
  obtain ⟨x, e, -⟩ := id h3
  exact ⟨h1, h2, x, e, h3, h4⟩
theorem rout13_pair {h h1 h2 : rk_S} {v1 v2 : Option Value} (hI : rk_Iv rk_Y h) (hJ : lJ h) (p1 : rX13 h v1 h1) (p2 : rM13 h1 v2 h2) : ∃ x1 x2 : Int32, v1 = some (.int x1) ∧ v2 = some (.int x2) ∧ x1.toInt = x2.toInt ∧ lJ h2 := by
  obtain ⟨j1, j2, j3, j4⟩ := hJ
  obtain ⟨y1, ey1, p1, q1⟩ := p1
  obtain ⟨y2, ey2, p2, q2⟩ := p2
  obtain ⟨x1, x2, e1, e2, e3, hC⟩ := rout_pair hI j1 p1 p2
  obtain ⟨z1, -, f1, g1⟩ := p1
  obtain ⟨z2, -, f2, g2⟩ := p2
  have fr : ∀ b k, 4 ≤ b → b ≤ 17 → rk_get h2 b k = rk_get h b k := fun b k h4 h17 => (f2 b k (by unfold rPM; omega)).trans (f1 b k (by unfold rPX; omega))
  have e8 : gi h2 1 8 = gi h 1 8 := (gi_eq (f2 1 8 (by unfold rPM; omega))).trans q1
  have e316 : rk_iv h1 316 0 = rk_iv h 316 0 := rk_iv_eq (f1 316 0 (by unfold rPX; omega))
  have e319 : ∀ r, rk_iv h1 319 r = rk_iv h 319 r := fun r => rk_iv_eq (f1 319 r (by unfold rPX; omega))
  have e25 : rk_iv h2 2 5 = rk_iv h1 2 5 := rk_iv_eq (f2 2 5 (by unfold rPM; omega))
  have c1 := j1.1
  have c2 := hC.1
  rw [e316] at q2 g2
  refine ⟨x1, x2, e1, e2, e3, hC, K1_eq fr j2, fun r hr => ?_, fun r hr hb => ?_⟩
  · rw [e8]
    have j3r := j3 r hr
    refine ⟨fun hr2 => ?_, fun hr2 => j3r.2 (by omega)⟩
    rcases q2 with ⟨q3, q4⟩ | ⟨q3, q4⟩
    · rw [q4 r, e319]
      exact j3r.1 (by omega)
    · by_cases e : (r : Int) = rk_iv h 316 0
      · have er : r = (rk_iv h 316 0).toNat := by omega
        rw [j3r.2 (by omega), er, q4]
        exact ⟨fun z => (by cases z), fun z => absurd z (by decide)⟩
      · rw [q3 r e, e319]
        refine j3r.1 ?_
        rcases g1 with ⟨a, -⟩ | ⟨a, -⟩ <;> omega
  · rw [rk_iv_eq (fr 15 r (by omega) (by omega))]
    rw [e8] at hb
    exact j4 r hr hb
def cX13 (h : rk_S) (r c : Int) (v : Option Value) (h' : rk_S) : Prop := ∃ x : Int32, v = some (.int x) ∧ cPost 2 5 14 (fun r => 4 + r) (fun _ l => l) cPX h r c v h' ∧ K1 h' ∧ ((∀ b k, rk_get h' b k = rk_get h b k) ∨ TC h h')
def cM13 (h : rk_S) (r c : Int) (v : Option Value) (h' : rk_S) : Prop := ∃ x : Int32, v = some (.int x) ∧ cPost 316 0 317 (fun _ => 318) (fun r l => 40 * r + l) cPM h r c v h' ∧ (h' = h ∨ TM h h')
theorem codeX_13 {D L : Nat} {xs : Nat → Int32} {h : rk_S} (hD : 20 ≤ D) (hB : lB L xs h) (hJ : lJ h) (r c : Int32) : rk_wp D rm_X7_code 0 (lv_args 0 [.ref 1, .int r, .int c]) [] h (fun v h' => rk_Iv rk_Y h' ∧ (∀ k, rk_get h' 0 k = rk_get h 0 k) ∧ cX13 h r.toInt c.toInt v h') := by
  refine wp_weak (wp_and (codeX_2 hD hB.2.1 r c) (Q' := fun _ h' => K1 h' ∧ ((∀ b k, rk_get h' b k = rk_get h b k) ∨ TC h h')) (fun n o E => ⟨code_K1 (yG_lB hB) hB.2.1 hJ.1 hJ.2.1 E, code_T (yG_lB hB) hB.2.1 hJ.1 hJ.2.1 E⟩)) (fun v h' hv => ?_)
  obtain ⟨⟨h1, h2, h3⟩, h4, h5⟩ := hv
  obtain ⟨x, e, -⟩ := id h3
  exact ⟨h1, h2, x, e, h3, h4, h5⟩
theorem codeM_13 {D L : Nat} {xs : Nat → Int32} {h : rk_S} (hD : 20 ≤ D) (hB : lB L xs h) (hz : ∀ r : Nat, r < 10 → rk_iv h 316 0 ≤ r → rk_iv h 317 r = 0) (r c : Int32) : rk_wp D rm_X8_code 0 (lv_args 0 [.ref 316, .int r, .int c]) [] h (fun v h' => rk_Iv rk_Y h' ∧ (∀ k, rk_get h' 0 k = rk_get h 0 k) ∧ cM13 h r.toInt c.toInt v h') := by
  refine wp_weak (wp_and (codeM_2 hD hB.2.1 r c) (Q' := fun _ h' => h' = h ∨ TM h h') (fun n o E => codeM_T (yG_lB hB) hB.2.1 hz E)) (fun v h' hv => ?_)
  obtain ⟨⟨h1, h2, h3⟩, h4⟩ := hv
  obtain ⟨x, e, -⟩ := id h3
  exact ⟨h1, h2, x, e, h3, h4⟩
theorem code13_mid {h h1 : rk_S} {r c : Int} {v1 : Option Value} (hI : rk_Iv rk_Y h) (hJ : lJ h) (p1 : cX13 h r c v1 h1) : ∀ r : Nat, r < 10 → rk_iv h1 316 0 ≤ r → rk_iv h1 317 r = 0 := by
  obtain ⟨x, -, ⟨x', -, p⟩, -⟩ := p1
  obtain ⟨xn, -, n2, n3⟩ := x_fok_ok hI ty_25
  rw [← n3] at n2
  have n4 := x_one1 n2
  have fr : ∀ b k, b = 316 ∨ b = 317 → rk_get h1 b k = rk_get h b k := by
    intro b k hb
    rcases p with ⟨-, -, a⟩ | ⟨-, -, -, -, a⟩ | ⟨-, -, -, -, -, a⟩ | ⟨a2, a3, -, -, -, -, -, a⟩
    · exact a b k id
    · exact a b k id
    · exact a b k id
    · exact a b k (by unfold cPX; omega)
  intro r hr hn
  rw [rk_iv_eq (fr 316 0 (Or.inl rfl))] at hn
  rw [rk_iv_eq (fr 317 r (Or.inr rfl)), ← hJ.1.2.1 r hr]
  exact hJ.1.2.2.1 r hr (by have := hJ.1.1; omega)
theorem TC_of {h h1 : rk_S} (hJ : lJ h) (t1 : (∀ b k, rk_get h1 b k = rk_get h b k) ∨ TC h h1) {r : Nat} (hr : r < 10) : bt (gi h1 1 8) r = true ↔ (bt (gi h 1 8) r = true ∧ (r : Int) < rk_iv h 2 5 ∧ rk_iv h1 15 r = 0) := by
  rcases t1 with t1 | t1
  · rw [gi_eq (t1 1 8), rk_iv_eq (t1 15 r)]
    refine ⟨fun z => ⟨z, Classical.byContradiction (fun w => ?_), hJ.2.2.2 r hr z⟩, fun z => z.1⟩
    rw [(hJ.2.2.1 r hr).2 (by omega)] at z
    cases z
  · exact t1 r
theorem code13_pair {h h1 h2 : rk_S} {r c : Int} {v1 v2 : Option Value} (hI : rk_Iv rk_Y h) (hJ : lJ h) (p1 : cX13 h r c v1 h1) (p2 : cM13 h1 r c v2 h2) : ∃ x1 x2 : Int32, v1 = some (.int x1) ∧ v2 = some (.int x2) ∧ x1.toInt = x2.toInt ∧ lJ h2 := by
  obtain ⟨y1, ey1, p1, k1, t1⟩ := p1
  obtain ⟨y2, ey2, p2, t2⟩ := p2
  have tc := fun (r : Nat) (hr : r < 10) => TC_of hJ t1 hr
  obtain ⟨j1, j2, j3, j4⟩ := hJ
  obtain ⟨x1, x2, e1, e2, e3, hC⟩ := code_pair hI j1 p1 p2
  obtain ⟨xn, -, n2, n3⟩ := x_fok_ok hI ty_25
  rw [← n3] at n2
  have n4 := x_one1 n2
  have fM : ∀ b k, b ≤ 17 ∨ (b = 316 ∧ k = 0) → rk_get h2 b k = rk_get h1 b k := by
    intro b k hb
    obtain ⟨x', -, p⟩ := p2
    rcases p with ⟨-, -, a⟩ | ⟨-, -, -, -, a⟩ | ⟨-, -, -, -, -, a⟩ | ⟨-, -, -, -, -, -, -, a⟩
    · exact a b k id
    · exact a b k id
    · exact a b k id
    · exact a b k (by unfold cPM; omega)
  have fX : ∀ b k, b = 2 ∨ 294 ≤ b → rk_get h1 b k = rk_get h b k := by
    intro b k hb
    obtain ⟨x', -, p⟩ := p1
    rcases p with ⟨-, -, a⟩ | ⟨-, -, -, -, a⟩ | ⟨-, -, -, -, -, a⟩ | ⟨a2, a3, -, -, -, -, -, a⟩
    · exact a b k id
    · exact a b k id
    · exact a b k id
    · exact a b k (by unfold cPX; omega)
  have hK2 : K1 h2 := K1_eq (fun b k h4 h17 => fM b k (Or.inl h17)) k1
  have e8 : gi h2 1 8 = gi h1 1 8 := gi_eq (fM 1 8 (by omega))
  have e15 : ∀ r, rk_iv h2 15 r = rk_iv h1 15 r := fun r => rk_iv_eq (fM 15 r (by omega))
  have f25 : rk_iv h2 2 5 = rk_iv h 2 5 := (rk_iv_eq (fM 2 5 (by omega))).trans (rk_iv_eq (fX 2 5 (by omega)))
  have f316 : rk_iv h1 316 0 = rk_iv h 316 0 := rk_iv_eq (fX 316 0 (by omega))
  have f319 : ∀ r, rk_iv h1 319 r = rk_iv h 319 r := fun r => rk_iv_eq (fX 319 r (by omega))
  have c1 := j1.1
  have tm : ∀ r : Nat, r < 10 → (r : Int) < rk_iv h 2 5 → (rk_iv h2 319 r = 1 ↔ (rk_iv h 319 r = 1 ∧ ∀ b, ¬ may (cdm h2) 15 r b)) := by
    intro r hr hrN
    rcases t2 with t2 | t2
    · rw [t2, f319]
      refine ⟨fun z => ⟨z, fun b w => ?_⟩, fun z => z.1⟩
      have hb := ((j3 r hr).1 hrN).mpr z
      have h0 := (K1_zero j2 hr).mp (j4 r hr hb)
      refine h0 b ((may_cc j1 15 r b).mpr ((may_iff (fun q c _ => cdm_eq (h := h) (h' := h1) (fun b k hb => fX b k (by omega)) q c) 15 r b).mp w))
    · rw [(t2 r hr).2 (by rw [f316]; omega), f319]
  refine ⟨x1, x2, e1, e2, e3, hC, hK2, fun r hr => ⟨fun hrN => ?_, fun hrN => ?_⟩, fun r hr hb => ?_⟩
  · rw [f25] at hrN
    rw [e8, tc r hr, tm r hr hrN, (j3 r hr).1 hrN, ← e15, K1_zero hK2 hr]
    constructor
    · rintro ⟨a, -, b⟩
      exact ⟨a, fun i z => b i ((may_cc hC 15 r i).mpr z)⟩
    · rintro ⟨a, b⟩
      exact ⟨a, hrN, fun i z => b i ((may_cc hC 15 r i).mp z)⟩
  · rw [f25] at hrN
    rw [e8]
    cases e : bt (gi h1 1 8) r with
    | false => rfl
    | true =>
      have := (tc r hr).mp e
      omega
  · rw [e15]
    rw [e8] at hb
    exact ((tc r hr).mp hb).2.2
theorem keepX_13 {D L : Nat} {xs : Nat → Int32} {h : rk_S} (hD : 20 ≤ D) (hB : lB L xs h) (r : Int32) {z : Int32} (hz : xinB z.toInt [(0, 1)]) : rk_wp D rm_X7_keep 0 (lv_args 0 [.ref 1, .int r, .int z]) [] h (fun v h' => rk_Iv rk_Y h' ∧ (∀ k, rk_get h' 0 k = rk_get h 0 k) ∧ kpX h r.toInt z.toInt v h') :=
  y_meth (R := kpX h r.toInt z.toInt) k_74 rfl (Nat.le_trans (by decide) hD) hB.2.1 (fun k z => by have := lw13_74 z; omega) ⟨List.mem_cons_self, xany_ok r, hz, trivial⟩ (fun n o E => keepX_p (yG_lB hB) hB.2.1 E)
theorem keepM_13 {D L : Nat} {xs : Nat → Int32} {h : rk_S} (hD : 20 ≤ D) (hB : lB L xs h) (hC : lC3 h) (r : Int32) {z : Int32} (hz : xinB z.toInt [(0, 1)]) : rk_wp D rm_X8_keep 0 (lv_args 0 [.ref 316, .int r, .int z]) [] h (fun v h' => rk_Iv rk_Y h' ∧ (∀ k, rk_get h' 0 k = rk_get h 0 k) ∧ kpM h r.toInt z.toInt v h') :=
  y_meth (R := kpM h r.toInt z.toInt) k_123 rfl (Nat.le_trans (by decide) hD) hB.2.1 (fun k z => by have := lw13_123 z; omega) ⟨List.mem_cons_self, xany_ok r, hz, trivial⟩ (fun n o E => keepM_p (yG_lB hB) hB.2.1 hC (x_one1 hz) E)
theorem keep_mid {h h1 : rk_S} {r z : Int} {v1 : Option Value} (hJ : lJ h) (p1 : kpX h r z v1 h1) : lC3 h1 := by
  obtain ⟨x, -, p⟩ := p1
  rcases p with ⟨-, -, rfl⟩ | ⟨-, -, -, -, rfl⟩ | ⟨-, -, -, -, -, a⟩
  · exact hJ.1
  · exact hJ.1
  · exact lC3_eq (fun b k hb => rk_iv_eq (a b k (by omega) (by omega) (by omega))) hJ.1
theorem keep_pair {h h1 h2 : rk_S} {r z z' : Int} {v1 v2 : Option Value} (hI : rk_Iv rk_Y h) (hJ : lJ h) (hz1 : z = 0 ∨ z = 1) (hz2 : z' = 0 ∨ z' = 1) (hzz : z = 0 ↔ z' = 0) (p1 : kpX h r z v1 h1) (p2 : kpM h1 r z' v2 h2) : ∃ x1 x2 : Int32, v1 = some (.int x1) ∧ v2 = some (.int x2) ∧ x1.toInt = x2.toInt ∧ lJ h2 := by
  have hC1 := keep_mid hJ p1
  obtain ⟨j1, j2, j3, j4⟩ := hJ
  have hzz' : z = z' := by omega
  subst hzz'
  obtain ⟨xn, -, n2, n3⟩ := x_fok_ok hI ty_25
  rw [← n3] at n2
  have n4 := x_one1 n2
  have c1 := j1.1
  obtain ⟨x1, rfl, p1⟩ := p1
  obtain ⟨x2, rfl, p2⟩ := p2
  refine ⟨x1, x2, rfl, rfl, ?_⟩
  rcases p1 with ⟨a1, a2, rfl⟩ | ⟨a1, a2, a3, a4, rfl⟩ | ⟨a1, a2, a3, a4, a5, a6⟩
  · rcases p2 with ⟨b1, b2, rfl⟩ | ⟨b1, b2, b3, b4, rfl⟩ | ⟨b1, b2, b3, b4, b5, b6⟩
    · exact ⟨by omega, j1, j2, j3, j4⟩
    · omega
    · omega
  · rcases p2 with ⟨b1, b2, rfl⟩ | ⟨b1, b2, b3, b4, rfl⟩ | ⟨b1, b2, b3, b4, b5, b6⟩
    · omega
    · exact ⟨by omega, j1, j2, j3, j4⟩
    · exact absurd ((K1_zero j2 (by omega)).mpr (fun b w => b3 b ((may_cc j1 15 _ b).mp w))) a3
  · have e316 : rk_iv h1 316 0 = rk_iv h 316 0 := rk_iv_eq (a6 316 0 (by omega) (by omega) (by omega))
    have e319 : ∀ k, rk_iv h1 319 k = rk_iv h 319 k := fun k => rk_iv_eq (a6 319 k (by omega) (by omega) (by omega))
    have hm1 : ∀ b, ¬ may (cdm h1) 15 r.toNat b := by
      intro b w
      refine (K1_zero j2 (show r.toNat < 10 by omega)).mp a3 b ((may_cc j1 15 _ b).mpr ((may_iff (fun q c _ => cdm_eq (h := h) (h' := h1) (fun b k hb => a6 b k (by omega) (by omega) (by omega)) q c) 15 _ b).mp w))
    rw [e316] at p2
    rcases p2 with ⟨b1, b2, rfl⟩ | ⟨b1, b2, ⟨bb, b3⟩, b4, rfl⟩ | ⟨b1, b2, b3, b4, b5, b6⟩
    · omega
    · exact absurd b3 (hm1 bb)
    · have hr10 : r.toNat < 10 := by omega
      have j3r := (j3 r.toNat hr10).1 (by omega)
      have h01 := h01_of hI r.toNat hr10
      rw [e319] at b4
      have fr : ∀ b k, (b = 2 ∨ (4 ≤ b ∧ b ≤ 17) ∨ (b = 316 ∧ k = 0) ∨ b = 317 ∨ b = 318) → rk_get h2 b k = rk_get h b k := fun b k hb => (b6 b k (by omega) (by omega) (by omega)).trans (a6 b k (by omega) (by omega) (by omega))
      have e8 : gi h2 1 8 = gi h1 1 8 := gi_eq (b6 1 8 (by omega) (by omega) (by omega))
      have e25 : rk_iv h2 2 5 = rk_iv h 2 5 := rk_iv_eq (fr 2 5 (by omega))
      refine ⟨?_, lC3_eq (fun b k hb => rk_iv_eq (fr b k (by omega))) j1, K1_eq (fun b k h4 h17 => fr b k (by omega)) j2, fun q hq => ?_, fun q hq hb => ?_⟩
      · rcases a4 with ⟨q1, q2⟩ | ⟨q1, q2⟩
        · rw [q2] at j3r
          have : ¬ rk_iv h 319 r.toNat = 1 := fun w => absurd (j3r.mpr w) Bool.false_ne_true
          omega
        · have := j3r.mp q2
          omega
      · rw [e25, e8, a5 q (by omega)]
        by_cases e : q = r.toNat
        · subst e
          rw [b5]
          refine ⟨fun _ => ?_, fun w => by omega⟩
          constructor
          · rintro (⟨-, w⟩ | ⟨w, -⟩)
            · omega
            · exact absurd rfl w
          · intro w
            exact Or.inl ⟨rfl, by omega⟩
        · rw [rk_iv_eq (b6 319 q (by omega) (by omega) (by omega)), e319]
          have j3q := j3 q hq
          refine ⟨fun w => ?_, fun w => ?_⟩
          · rw [← j3q.1 w]
            constructor
            · rintro (⟨u, -⟩ | ⟨-, u⟩)
              · exact absurd u e
              · exact u
            · exact fun u => Or.inr ⟨e, u⟩
          · cases eb : bt (gi h1 1 8) q with
            | false => rfl
            | true =>
              rcases (a5 q (by omega)).mp eb with ⟨u, -⟩ | ⟨-, u⟩
              · exact absurd u e
              · rw [j3q.2 w] at u
                cases u
      · rw [rk_iv_eq (fr 15 q (by omega))]
        rw [e8, a5 q (by omega)] at hb
        rcases hb with ⟨u, -⟩ | ⟨-, u⟩
        · rw [u]; exact a3
        · exact j4 q hq u
