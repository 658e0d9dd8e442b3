/-! routine and code over the shared state; acting, reads -/
theorem rout8_pair {h h1 h2 : rk_S} {v1 v2 : Option Value} (hI : rk_Iv rk_Y h) (hJ : lJ h) (p1 : rPostX h v1 h1) (p2 : rPostM h1 v2 h2) : ∃ x1 x2 : Int32, v1 = some (.int x1) ∧ v2 = some (.int x2) ∧ x1.toInt = x2.toInt ∧ lJ h2 := by
  obtain ⟨x1, x2, e1, e2, e3, hC⟩ := rout_pair hI hJ.1 p1 p2
  refine ⟨x1, x2, e1, e2, e3, hC, K1_eq (fun b k h4 h17 => ?_) hJ.2⟩
  obtain ⟨-, -, f1, -⟩ := p1
  obtain ⟨-, -, f2, -⟩ := p2
  exact (f2 b k (by unfold rPM; omega)).trans (f1 b k (by unfold rPX; omega))
def cX8 (h : rk_S) (r c : Int) (v : Option Value) (h' : rk_S) : Prop := ∃ x : Int32, v = some (.int x) ∧ cPost 2 5 14 (fun r => 4 + r) (fun _ l => l) cPX h r c v h' ∧ K1 h'
theorem codeX_8 {D L : Nat} {xs : Nat → Int32} {h : rk_S} (hD : 20 ≤ D) (hB : lB L xs h) (hJ : lJ h) (r c : Int32) : rk_wp D rm_X7_code 0 (lv_args 0 [.ref 1, .int r, .int c]) [] h (fun v h' => rk_Iv rk_Y h' ∧ (∀ k, rk_get h' 0 k = rk_get h 0 k) ∧ cX8 h r.toInt c.toInt v h') := by
  refine wp_weak (wp_and (codeX_2 hD hB.2.1 r c) (Q' := fun _ h' => K1 h') (fun n o E => code_K1 (yG_lB hB) hB.2.1 hJ.1 hJ.2 E)) (fun v h' hv => ?_)
  obtain ⟨⟨h1, h2, h3⟩, h4⟩ := hv
  obtain ⟨x, e, -⟩ := id h3
  exact ⟨h1, h2, x, e, h3, h4⟩
theorem code8_pair {h h1 h2 : rk_S} {r c : Int} {v1 v2 : Option Value} (hI : rk_Iv rk_Y h) (hJ : lJ h) (p1 : cX8 h r c v1 h1) (p2 : cPost 316 0 317 (fun _ => 318) (fun r l => 40 * r + l) cPM h1 r c v2 h2) : ∃ x1 x2 : Int32, v1 = some (.int x1) ∧ v2 = some (.int x2) ∧ x1.toInt = x2.toInt ∧ lJ h2 := by
  obtain ⟨-, -, p1, k1⟩ := p1
  obtain ⟨x1, x2, e1, e2, e3, hC⟩ := code_pair hI hJ.1 p1 p2
  refine ⟨x1, x2, e1, e2, e3, hC, K1_eq (fun b k h4 h17 => ?_) k1⟩
  obtain ⟨xq, -, p2⟩ := p2
  rcases p2 with ⟨-, -, a3⟩ | ⟨-, -, -, -, a5⟩ | ⟨-, -, -, -, -, a6⟩ | ⟨-, -, -, -, -, -, -, a8⟩
  · exact a3 b k id
  · exact a5 b k id
  · exact a6 b k id
  · exact a8 b k (by unfold cPM; omega)
theorem actX_8 {D L : Nat} {xs : Nat → Int32} {h : rk_S} (hD : 20 ≤ D) (hB : lB L xs h) (r : Int32) : rk_wp D rm_X7_acting 0 (lv_args 0 [.ref 1, .int r]) [] h (fun v h' => rk_Iv rk_Y h' ∧ (∀ k, rk_get h' 0 k = rk_get h 0 k) ∧ aaX 15 h r.toInt v h') :=
  y_meth (R := aaX 15 h r.toInt) k_69 rfl (Nat.le_trans (by decide) hD) hB.2.1 (fun k z => by have := lw3_PW z; omega) ⟨List.mem_cons_self, xany_ok r, trivial⟩ (fun n o E => actX_p (yG_lB hB) E)
theorem reaX_8 {D L : Nat} {xs : Nat → Int32} {h : rk_S} (hD : 20 ≤ D) (hB : lB L xs h) (r : Int32) : rk_wp D rm_X7_reads 0 (lv_args 0 [.ref 1, .int r]) [] h (fun v h' => rk_Iv rk_Y h' ∧ (∀ k, rk_get h' 0 k = rk_get h 0 k) ∧ aaX 16 h r.toInt v h') :=
  y_meth (R := aaX 16 h r.toInt) k_70 rfl (Nat.le_trans (by decide) hD) hB.2.1 (fun k z => by have := lw3_PW z; omega) ⟨List.mem_cons_self, xany_ok r, trivial⟩ (fun n o E => reaX_p (yG_lB hB) E)
theorem actM_8 {D L : Nat} {xs : Nat → Int32} {h : rk_S} (hD : 20 ≤ D) (hB : lB L xs h) (hC : lC3 h) (r : Int32) : rk_wp D rm_X8_acting 0 (lv_args 0 [.ref 316, .int r]) [] h (fun v h' => rk_Iv rk_Y h' ∧ (∀ k, rk_get h' 0 k = rk_get h 0 k) ∧ aaM 15 h r.toInt v h') :=
  y_meth (R := aaM 15 h r.toInt) k_100 rfl (Nat.le_trans (by decide) hD) hB.2.1 (fun k z => by have := lw3_RP z; omega) ⟨List.mem_cons_self, xany_ok r, trivial⟩ (fun n o E => actM_p (yG_lB hB) hB.2.1 hC E)
theorem reaM_8 {D L : Nat} {xs : Nat → Int32} {h : rk_S} (hD : 20 ≤ D) (hB : lB L xs h) (hC : lC3 h) (r : Int32) : rk_wp D rm_X8_reads 0 (lv_args 0 [.ref 316, .int r]) [] h (fun v h' => rk_Iv rk_Y h' ∧ (∀ k, rk_get h' 0 k = rk_get h 0 k) ∧ aaM 16 h r.toInt v h') :=
  y_meth (R := aaM 16 h r.toInt) k_101 rfl (Nat.le_trans (by decide) hD) hB.2.1 (fun k z => by have := lw3_RP z; omega) ⟨List.mem_cons_self, xany_ok r, trivial⟩ (fun n o E => reaM_p (yG_lB hB) hB.2.1 hC E)
