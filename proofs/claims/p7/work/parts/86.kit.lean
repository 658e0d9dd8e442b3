/-! the law's calls, over what both sides share (lJ) -/
set_option maxRecDepth 100000 in
theorem lw_t1 : ∃ nn ts, xty 1 = some (7, nn, ts) := ⟨_, _, rfl⟩
set_option maxRecDepth 100000 in
theorem lw_t316 : ∃ nn ts, xty 316 = some (8, nn, ts) := ⟨_, _, rfl⟩
section RKlaw3
variable {D L : Nat} {xs : Nat → Int32} {i : Int32} {h : rk_S} {m : Nat} {Q : Option Value → rk_S → Prop} {st r : List Value} {pc : Nat}
theorem lw_call2 {x n na a : Nat} {M' : rk_M} {av : List Value} {kd nn : Nat} {ts : List rk_ST} {Q' : Option Value → rk_S → Prop} (hB : lB L xs h) (hix : rk_find rm_L_law.2.2.2.2.2 pc = some (.invokevirtual x, 3)) (hq : rk_inv rm_L_law (.invokevirtual x) = some (n, na, 1)) (hM : rk_m n = some M') (hi : ¬ M'.1.name = "<init>") (hT : xty a = some (kd, nn, ts)) (hk : kd = M'.2.2.2.2.1) (hn : av.length = na) (hc : ∀ v ∈ av, v.category = 1) (hr : ∀ v ∈ r, v.category = 1) (hr8 : r.length ≤ 8) (hl : na + 1 ≤ M'.2.2.1) (h21 : M'.2.2.1 ≤ 21)
    (hw : rk_wp D M' 0 (lv_args 0 (.ref a :: av)) [] h (fun v h' => rk_Iv rk_Y h' ∧ (∀ k, rk_get h' 0 k = rk_get h 0 k) ∧ Q' v h'))
    (kk : ∀ v h', lB L xs h' → Q' v h' → rk_wp (D + 1) rm_L_law (pc + 3) (lw_lv i) (v.toList ++ r) h' Q) : rk_wp (D + 1) rm_L_law pc (lw_lv i) (av.reverse ++ .ref a :: r) h Q := by
  obtain ⟨vs, g1, -, -⟩ := hB.2.1 a _ (xty_Y hT)
  refine wp_call (ar := (.ref a :: av, r)) hix hq (by show (1 : Nat) ≠ 3; decide) (by show (1 : Nat) ≠ 5; decide) hM (lw_go g1 hk hn hc hr hr8 hl h21) (x_kept (List.mem_of_getElem? hM) hi hw) (fun v h' hv => ?_)
  obtain ⟨⟨p1, p2, p3⟩, p4, p5, p6⟩ := hv
  exact kk v h' ⟨x_scr hB.1 p6 p2, p1, by rw [p4]; exact hB.2.2.1, by rw [p5]; exact hB.2.2.2⟩ p3
theorem lw_sideJ {x n na a : Nat} {M' : rk_M} {av : List Value} {kd nn : Nat} {ts : List rk_ST} {c : xCt} (hk0 : xCon n c) (hB : lB L xs h) (hC : lJ h) (hix : rk_find rm_L_law.2.2.2.2.2 pc = some (.invokevirtual x, 3)) (hq : rk_inv rm_L_law (.invokevirtual x) = some (n, na, 1)) (hM : rk_m n = some M') (hi : ¬ M'.1.name = "<init>") (hT : xty a = some (kd, nn, ts)) (hk : kd = M'.2.2.2.2.1) (hn : av.length = na) (hc : ∀ v ∈ av, v.category = 1) (hl : na + 1 ≤ M'.2.2.1) (h21 : M'.2.2.1 ≤ 21) (hD : c.1 ≤ D) (hw : ∀ b k, (b = 0 ∨ lkeep b k) → ¬ xCov c.2.2.1 b k) (hres : c.2.2.2 = some x_any) (ha : xArg c.2.1 (.ref a :: av))
    (kk : ∀ (y : Int32) h', lB L xs h' → lJ h' → rk_wp (D + 1) rm_L_law (pc + 3) (lw_lv i) [.int y] h' Q) : rk_wp (D + 1) rm_L_law pc (lw_lv i) (av.reverse ++ [.ref a]) h Q := by
  obtain ⟨M2, e1, e2⟩ := hk0
  cases hM.symm.trans e1
  refine lw_call2 (r := []) (Q' := fun v h' => (∀ b k, ¬ xCov c.2.2.1 b k → rk_get h' b k = rk_get h b k) ∧ xRes c.2.2.2 v) hB hix hq hM hi hT hk hn hc (fun v hv => absurd hv List.not_mem_nil) (Nat.zero_le _) hl h21 (wp_weak (e2 D _ h hD hB.2.1 ha) (fun v h' hv => ⟨hv.1, fun k => hv.2.1 0 k (hw 0 k (Or.inl rfl)), hv.2⟩)) (fun v h' hB' hf => ?_)
  obtain ⟨hf, hr⟩ := hf
  rw [hres] at hr
  cases v with
  | none => exact absurd hr id
  | some v =>
    obtain ⟨y, rfl, -⟩ := rk_okI hr
    exact kk y h' hB' (lJ_eq (fun b k hb => hf b k (hw b k (Or.inr hb))) hC)
end RKlaw3
theorem cPost_0 {cn kn cl : Nat} {cc : Nat → Nat} {ci : Nat → Nat → Nat} {P : Nat → Nat → Nat → Nat → Prop} {h h' : rk_S} {r c : Int} {v : Option Value} (hP : ∀ r l k, ¬ P r l 0 k) (hp : cPost cn kn cl cc ci P h r c v h') (k : Nat) : rk_get h' 0 k = rk_get h 0 k := by
  obtain ⟨x, -, p1⟩ := hp
  rcases p1 with ⟨a1, a2, a3⟩ | ⟨a1, a2, a3, a4, a5⟩ | ⟨a1, a2, a3, a4, a5, a6⟩ | ⟨a2, a3, a4, a5, a1, a6, a7, a8⟩
  · exact a3 0 k id
  · exact a5 0 k id
  · exact a6 0 k id
  · exact a8 0 k (hP _ _ _)
theorem codeX_2 {D : Nat} {h : rk_S} (hD : 20 ≤ D) (hI : rk_Iv rk_Y h) (r c : Int32) : rk_wp D rm_X7_code 0 (lv_args 0 [.ref 1, .int r, .int c]) [] h (fun v h' => rk_Iv rk_Y h' ∧ (∀ k, rk_get h' 0 k = rk_get h 0 k) ∧ cPost 2 5 14 (fun r => 4 + r) (fun _ l => l) cPX h r.toInt c.toInt v h') := wp_weak (codeX_ok (by omega) hI r c) (fun v h' hv => ⟨hv.1, cPost_0 (fun r l k => by unfold cPX; omega) hv.2, hv.2⟩)
theorem codeM_2 {D : Nat} {h : rk_S} (hD : 20 ≤ D) (hI : rk_Iv rk_Y h) (r c : Int32) : rk_wp D rm_X8_code 0 (lv_args 0 [.ref 316, .int r, .int c]) [] h (fun v h' => rk_Iv rk_Y h' ∧ (∀ k, rk_get h' 0 k = rk_get h 0 k) ∧ cPost 316 0 317 (fun _ => 318) (fun r l => 40 * r + l) cPM h r.toInt c.toInt v h') := wp_weak (codeM_ok (by omega) hI r c) (fun v h' hv => ⟨hv.1, cPost_0 (fun r l k => by unfold cPM; omega) hv.2, hv.2⟩)
def rPostX (h : rk_S) (v : Option Value) (h' : rk_S) : Prop := ∃ x : Int32, v = some (.int x) ∧ xfr (rPX (rk_iv h 2 5).toNat) h h' ∧ ((rk_iv h' 2 5 = rk_iv h 2 5 + 1 ∧ rk_iv h 2 5 ≤ 9 ∧ x.toInt = rk_iv h 2 5) ∨ (rk_iv h' 2 5 = rk_iv h 2 5 ∧ 10 ≤ rk_iv h 2 5 ∧ x.toInt = -4))
def rPostM (h : rk_S) (v : Option Value) (h' : rk_S) : Prop := ∃ x : Int32, v = some (.int x) ∧ xfr (rPM (rk_iv h 316 0).toNat) h h' ∧ ((rk_iv h' 316 0 = rk_iv h 316 0 + 1 ∧ rk_iv h 316 0 ≤ 9 ∧ rk_iv h' 317 (rk_iv h 316 0).toNat = 0 ∧ x.toInt = rk_iv h 316 0) ∨ (rk_iv h' 316 0 = rk_iv h 316 0 ∧ 10 ≤ rk_iv h 316 0 ∧ x.toInt = -4))
theorem routX_2 {D : Nat} {h : rk_S} (hD : 20 ≤ D) (hI : rk_Iv rk_Y h) : rk_wp D rm_X7_routine 0 (lv_args 0 [.ref 1]) [] h (fun v h' => rk_Iv rk_Y h' ∧ (∀ k, rk_get h' 0 k = rk_get h 0 k) ∧ rPostX h v h') := wp_weak (routX_ok (by omega) hI) (fun v h' hv => ⟨hv.1, fun k => by obtain ⟨x, -, hf, -⟩ := hv.2; exact hf 0 k (by unfold rPX; omega), hv.2⟩)
theorem routM_2 {D : Nat} {h : rk_S} (hD : 20 ≤ D) (hI : rk_Iv rk_Y h) : rk_wp D rm_X8_routine 0 (lv_args 0 [.ref 316]) [] h (fun v h' => rk_Iv rk_Y h' ∧ (∀ k, rk_get h' 0 k = rk_get h 0 k) ∧ rPostM h v h') := wp_weak (routM_ok (by omega) hI) (fun v h' hv => ⟨hv.1, fun k => by obtain ⟨x, -, hf, -⟩ := hv.2; exact hf 0 k (by unfold rPM; omega), hv.2⟩)
theorem lw3_PW {b k : Nat} (h : xCov [((1, 1), (8, 9)), ((18, 293), (-1, 10000))] b k) : b = 1 ∨ (18 ≤ b ∧ b ≤ 293) := by
  obtain ⟨c, h1, h2, h3, h4, h5⟩ := h
  simp only [List.mem_cons, List.not_mem_nil, or_false] at h1
  rcases h1 with rfl | rfl <;> dsimp only at h2 h3 h4 h5 <;> omega
theorem lw3_RP {b k : Nat} (h : xCov [((316, 316), (3, 44)), ((319, 343), (-1, 10000))] b k) : (b = 316 ∧ 3 ≤ k) ∨ (319 ≤ b ∧ b ≤ 343) := by
  obtain ⟨c, h1, h2, h3, h4, h5⟩ := h
  simp only [List.mem_cons, List.not_mem_nil, or_false] at h1
  rcases h1 with rfl | rfl <;> dsimp only at h2 h3 h4 h5 <;> omega
theorem lw3_78 {b k : Nat} (h : xCov [((294, 315), (-1, 10000))] b k) : 294 ≤ b ∧ b ≤ 315 := by
  obtain ⟨c, h1, h2, h3, h4, h5⟩ := h
  cases List.mem_singleton.mp h1
  dsimp only at h2 h3; omega
theorem lw3_79 {b k : Nat} (h : xCov [((294, 294), (1, 1))] b k) : b = 294 := by
  obtain ⟨c, h1, h2, h3, h4, h5⟩ := h
  cases List.mem_singleton.mp h1
  dsimp only at h2 h3; omega
theorem lw3_127 {b k : Nat} (h : xCov [((316, 316), (45, 45)), ((344, 344), (-1, 10000))] b k) : (b = 316 ∧ k = 45) ∨ b = 344 := by
  obtain ⟨c, h1, h2, h3, h4, h5⟩ := h
  simp only [List.mem_cons, List.not_mem_nil, or_false] at h1
  rcases h1 with rfl | rfl <;> dsimp only at h2 h3 h4 h5 <;> omega
theorem lw3_128 {b k : Nat} (h : xCov [((316, 316), (45, 45))] b k) : b = 316 ∧ k = 45 := by
  obtain ⟨c, h1, h2, h3, h4, h5⟩ := h
  cases List.mem_singleton.mp h1
  dsimp only at h2 h3 h4 h5; omega
