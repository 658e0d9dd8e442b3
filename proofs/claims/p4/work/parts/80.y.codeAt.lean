/-! codeAt, by pieces (laid by wip/gen/sx13.py) -/
def a_ctX : List (Nat × xCt) := []
theorem a_ctX_ok : ∀ q c, rk_find a_ctX q = some c → xCon q c := x_nil
set_option maxRecDepth 100000 in
theorem aX_a : c_run 65 a_ctX [] 3 1 [] (c_an (-1)) (cS [(-2147483648, -1)] xany [(0, 40)] [] (c_kn 2 [(0, 5)])) = true := by decide +kernel
set_option maxRecDepth 100000 in
theorem aX_b : c_run 65 a_ctX [] 3 1 [] (c_an (-1)) (cS [(0, 2147483647)] xany [(0, 40)] [[(1, 1), (3, (-1))]] (c_kn 2 [(0, 5)])) = true := by decide +kernel
set_option maxRecDepth 100000 in
theorem aX_c : c_run 65 a_ctX [] 3 1 [] (c_an (-6)) (cS [(0, 9)] [(-2147483648, -1)] [(0, 40)] c_in (c_kl 2 [(0, 5)] 14)) = true := by decide +kernel
set_option maxRecDepth 100000 in
theorem aX_d : c_run 65 a_ctX [] 3 1 [] (c_an (-6)) (cS [(0, 9)] [(0, 2147483647)] [(0, 40)] ([(2, 1), (4, (-1))] :: c_in) (c_kl 2 [(0, 5)] 14)) = true := by decide +kernel
set_option maxRecDepth 100000 in
theorem aX_e0 : (List.range 10).all (fun r => a_run 65 a_ctX 3 1 (aS (Int.ofNat r) [(0, 620)] 2 [(0, 5)] 14 (4 + r) [(2, 1)])) = true := by decide +kernel
theorem aX_e : ∀ r : Nat, r < 10 → a_run 65 a_ctX 3 1 (aS (r : Int) [(0, 620)] 2 [(0, 5)] 14 (4 + r) [(2, 1)]) = true := fun r hr => List.all_eq_true.mp aX_e0 r (List.mem_range.mpr hr)
def a_ctM : List (Nat × xCt) := []
theorem a_ctM_ok : ∀ q c, rk_find a_ctM q = some c → xCon q c := x_nil
set_option maxRecDepth 100000 in
theorem aM_a : c_run 94 a_ctM [] 2 316 [] (c_an (-1)) (cS [(-2147483648, -1)] xany [(0, 40)] [] (c_kn 316 [])) = true := by decide +kernel
set_option maxRecDepth 100000 in
theorem aM_b : c_run 94 a_ctM [] 2 316 [] (c_an (-1)) (cS [(0, 2147483647)] xany [(0, 40)] [[(1, 1), (3, (-1))]] (c_kn 316 [])) = true := by decide +kernel
set_option maxRecDepth 100000 in
theorem aM_c : c_run 94 a_ctM [] 2 316 [] (c_an (-6)) (cS [(0, 9)] [(-2147483648, -1)] [(0, 40)] c_in (c_kl 316 [] 317)) = true := by decide +kernel
set_option maxRecDepth 100000 in
theorem aM_d : c_run 94 a_ctM [] 2 316 [] (c_an (-6)) (cS [(0, 9)] [(0, 2147483647)] [(0, 40)] ([(2, 1), (4, (-1))] :: c_in) (c_kl 316 [] 317)) = true := by decide +kernel
set_option maxRecDepth 100000 in
theorem aM_e0 : (List.range 10).all (fun r => a_run 94 a_ctM 2 316 (aS (Int.ofNat r) [(0, 102), (200, 215), (300, 315), (400, 409), (500, 508), (601, 620)] 316 [] 317 318 [(1, 40), (2, 1)])) = true := by decide +kernel
theorem aM_e : ∀ r : Nat, r < 10 → a_run 94 a_ctM 2 316 (aS (r : Int) [(0, 102), (200, 215), (300, 315), (400, 409), (500, 508), (601, 620)] 316 [] 317 318 [(1, 40), (2, 1)]) = true := fun r hr => List.all_eq_true.mp aM_e0 r (List.mem_range.mpr hr)
theorem ty_4 : (List.range 10).all (fun r => x_aok (4 + r) 40 [(0, 620)]) = true := by decide +kernel
theorem atX_ok {D : Nat} {h : rk_S} (hD : 3 ≤ D) (hI : rk_Iv rk_Y h) (r c : Int32) : rk_wp D rm_X7_codeAt 0 (lv_args 0 [.ref 1, .int r, .int c]) [] h (fun v h' => rk_Iv rk_Y h' ∧ aPost 2 5 14 (fun r => 4 + r) (fun _ i => i) h r.toInt c.toInt v h') :=
  a_main (cit := fun _ => [(2, 1)]) aX_a aX_b aX_c aX_d aX_e a_ctX_ok rfl hD (fun _ => xE1 rfl rfl) (fun r i l => xE1 rfl (by omega)) ty_25 ty_14 (fun r hr => List.all_eq_true.mp ty_4 r (List.mem_range.mpr hr)) (fun r i _ hi => hi) hI r c
theorem atM_ok {D : Nat} {h : rk_S} (hD : 2 ≤ D) (hI : rk_Iv rk_Y h) (r c : Int32) : rk_wp D rm_X8_codeAt 0 (lv_args 0 [.ref 316, .int r, .int c]) [] h (fun v h' => rk_Iv rk_Y h' ∧ aPost 316 0 317 (fun _ => 318) (fun r i => 40 * r + i) h r.toInt c.toInt v h') :=
  a_main (cit := fun _ => [(1, 40), (2, 1)]) aM_a aM_b aM_c aM_d aM_e a_ctM_ok rfl hD (fun _ => rfl) (fun r i l => xE2 rfl rfl (by omega)) ty_3160 ty_317 (fun _ _ => ty_318) (fun r i h1 h2 => by omega) hI r c
theorem atX_2 {D : Nat} {h : rk_S} (hD : 20 ≤ D) (hI : rk_Iv rk_Y h) (r c : Int32) : rk_wp D rm_X7_codeAt 0 (lv_args 0 [.ref 1, .int r, .int c]) [] h (fun v h' => rk_Iv rk_Y h' ∧ (∀ k, rk_get h' 0 k = rk_get h 0 k) ∧ aPost 2 5 14 (fun r => 4 + r) (fun _ i => i) h r.toInt c.toInt v h') := wp_weak (atX_ok (by omega) hI r c) (fun v h' hv => ⟨hv.1, fun k => by obtain ⟨x, -, hf, -⟩ := hv.2; exact hf 0 k id, hv.2⟩)
theorem atM_2 {D : Nat} {h : rk_S} (hD : 20 ≤ D) (hI : rk_Iv rk_Y h) (r c : Int32) : rk_wp D rm_X8_codeAt 0 (lv_args 0 [.ref 316, .int r, .int c]) [] h (fun v h' => rk_Iv rk_Y h' ∧ (∀ k, rk_get h' 0 k = rk_get h 0 k) ∧ aPost 316 0 317 (fun _ => 318) (fun r i => 40 * r + i) h r.toInt c.toInt v h') := wp_weak (atM_ok (by omega) hI r c) (fun v h' hv => ⟨hv.1, fun k => by obtain ⟨x, -, hf, -⟩ := hv.2; exact hf 0 k id, hv.2⟩)
theorem at_pair {h h1 h2 : rk_S} {r c : Int} {v1 v2 : Option Value} (hI : rk_Iv rk_Y h) (hC : lC3 h) (p1 : aPost 2 5 14 (fun r => 4 + r) (fun _ i => i) h r c v1 h1) (p2 : aPost 316 0 317 (fun _ => 318) (fun r i => 40 * r + i) h1 r c v2 h2) : ∃ x1 x2 : Int32, v1 = some (.int x1) ∧ v2 = some (.int x2) ∧ x1.toInt = x2.toInt ∧ lC3 h2 := by
  obtain ⟨x1, rfl, f1, p1⟩ := p1
  obtain ⟨x2, rfl, f2, p2⟩ := p2
  have e1 := xNo_iv f1
  have e2 := xNo_iv f2
  obtain ⟨xn, -, n2, n3⟩ := x_fok_ok hI ty_25
  rw [← n3] at n2
  have n4 := x_one1 n2
  have c1 := hC.1
  refine ⟨x1, x2, rfl, rfl, ?_, lC3_eq (fun b k _ => (e2 b k).trans (e1 b k)) hC⟩
  rw [e1 316 0, e1 317] at p2
  have hlen : 0 ≤ r → r < rk_iv h 2 5 → rk_iv h 14 r.toNat = rk_iv h 317 r.toNat := fun a b => hC.2.1 r.toNat (by omega)
  rcases p1 with ⟨a1, a2⟩ | ⟨a1, a2, a3, a4⟩ | ⟨a2, a3, a4, a5, a1⟩
  · rcases p2 with ⟨b1, b2⟩ | ⟨b1, b2, b3, b4⟩ | ⟨b2, b3, b4, b5, b1⟩ <;> omega
  · have := hlen a2 a3
    rcases p2 with ⟨b1, b2⟩ | ⟨b1, b2, b3, b4⟩ | ⟨b2, b3, b4, b5, b1⟩ <;> omega
  · have := hlen a2 a3
    have hcode := hC.2.2.2 r.toNat c.toNat (by omega) (by omega)
    rcases p2 with ⟨b1, b2⟩ | ⟨b1, b2, b3, b4⟩ | ⟨b2, b3, b4, b5, b1⟩
    · omega
    · omega
    · rw [e1 318] at b1
      rw [a1, b1]
      exact hcode
