/-! what the other calls do to what is kept, and to the runs told -/
section RKLE
variable {N : Nat} {ln : Nat → Nat} {cd : Nat → Nat → Int}
theorem SV_0 {h h' : rk_S} {N' : Nat} {ln' : Nat → Nat} {cd' : Nat → Nat → Int} (h21 : ∀ k, rk_get h' 21 k = rk_get h 21 k) (h0 : (gi h' 20 1).toInt = 0) (hS : SV N ln cd h) : SV N' ln' cd' h' := by
  obtain ⟨-, s4, s5⟩ := hS
  have e21 : ∀ i, gr h' 21 i = gr h 21 i := fun i => gr_eq (h21 i)
  exact ⟨⟨0, h0, by omega, fun i hi => by omega⟩, fun i hi => by rw [e21]; exact s4 i hi, fun i j hi hj e => s5 i j hi hj (by rw [e21, e21] at e; exact e)⟩
theorem yE_20 {h : rk_S} (hG : yG h) : yE 20 1 h := hG.yE (by decide) (by decide) (by rw [yln_sh.1]; decide)
theorem yE_322 {h : rk_S} (hG : yG h) : yE 322 0 h := hG.yE (by decide) (by decide) (by rw [yln_m.2.2.2.2.2.2.1]; decide)
/-- room of the class -/
theorem rmX_S {n d : Nat} {h : rk_S} {o : Option Value × rk_S} {a b : Int32} (hG : yG h) (hS : SV N ln cd h) (E : rk_ex n d rm_X7_room 0 [(0, .ref 1), (1, .int a), (2, .int b)] [] h = some o) : (∃ x : Int32, o.1 = some (.int x)) ∧ SV N ln cd o.2 ∧ ∀ b k, b ≠ 20 → b ≠ 21 → rk_get o.2 b k = rk_get h b k := by
  rcases yq_rm hG E with ⟨-, -, rfl⟩ | ⟨-, -, -, rfl⟩ | ⟨-, -, -, -, rfl⟩ | ⟨-, -, -, -, m, hm, -, E1⟩ | ⟨-, -, -, -, -, rfl⟩
  · exact ⟨⟨_, rfl⟩, hS, fun _ _ _ _ => rfl⟩
  · exact ⟨⟨_, rfl⟩, hS, fun _ _ _ _ => rfl⟩
  · exact ⟨⟨_, rfl⟩, hS, fun _ _ _ _ => rfl⟩
  · obtain ⟨m1, d1, o1, hm1, E2, E3⟩ := E_call (ar := ([.ref 20, .int a, .int b], [])) rfl rfl rfl rfl rfl rfl E1
    obtain ⟨y, h1, rfl, g1, g2, g3⟩ := fu_ok hG hS E2
    obtain ⟨-, rfl⟩ := yq_rm1 g1 E3
    exact ⟨⟨_, rfl⟩, g2, fun b k z1 z2 => g3 b k z2 z1⟩
  · exact ⟨⟨_, rfl⟩, hS, fun _ _ _ _ => rfl⟩
/-- forget of the class -/
theorem foX_S {n d : Nat} {h : rk_S} {o : Option Value × rk_S} (hG : yG h) (hS : SV N ln cd h) (E : rk_ex n d rm_X7_forget 0 [(0, .ref 1)] [] h = some o) : (∃ x : Int32, o.1 = some (.int x)) ∧ SV N ln cd o.2 ∧ ∀ b k, ¬ (b = 20 ∧ k = 1) → rk_get o.2 b k = rk_get h b k := by
  obtain ⟨-, rfl⟩ := yq_fo hG E
  exact ⟨⟨_, rfl⟩, SV_0 (fun k => rk_get_ne (by omega)) (by rw [gi_s (yE_20 hG)]; rfl) hS, fun b k z => rk_get_ne (by omega)⟩
/-- keep of the class -/
theorem kpX_S {n d : Nat} {h : rk_S} {o : Option Value × rk_S} {r z : Int32} (hG : yG h) (hS : SV N ln cd h) (E : rk_ex n d rm_X7_keep 0 [(0, .ref 1), (1, .int r), (2, .int z)] [] h = some o) : SV N ln cd o.2 ∧ ∀ b k, ¬ (b = 1 ∧ k = 8) → ¬ (b = 20 ∧ k = 1) → b ≠ 21 → rk_get o.2 b k = rk_get h b k := by
  have h8 : ∀ w : Int32, SV N ln cd (rk_pt h 1 8 (.int w)) := fun w => SV_fr (fun b k z1 z2 => rk_get_ne (by omega)) hS
  have sub : ∀ (m : Nat) (y w : Int32), yG (rk_pt h 1 8 (.int w)) → rk_ex m d rm_X7_keep 82 [(3, .int y), (0, .ref 1), (1, .int r), (2, .int z)] [.int r, .ref 20] (rk_pt h 1 8 (.int w)) = some o → SV N ln cd o.2 ∧ ∀ b k, ¬ (b = 1 ∧ k = 8) → ¬ (b = 20 ∧ k = 1) → b ≠ 21 → rk_get o.2 b k = rk_get h b k := by
    intro m y w hG1 E1
    obtain ⟨m1, d1, o1, hm1, E2, E3⟩ := E_call (ar := ([.ref 20, .int r], [])) rfl rfl rfl rfl rfl rfl E1
    obtain ⟨h1, rfl, g1, g2, g3⟩ := do_ok hG1 (h8 w) E2
    obtain ⟨-, rfl⟩ := yt_kp1 g1 E3
    exact ⟨g2, fun b k z1 z2 z3 => (g3 b k z3 z2).trans (rk_get_ne (by omega))⟩
  rcases yt_kp hG E with ⟨-, -, rfl⟩ | ⟨-, -, -, rfl⟩ | ⟨-, -, -, -, -, m, -, hG1, E1⟩ | ⟨-, -, -, -, -, hG1, rfl⟩ | ⟨-, -, -, -, -, m, -, hG1, E1⟩ | ⟨-, -, -, -, -, hG1, rfl⟩ | ⟨-, -, -, -, rfl⟩
  · exact ⟨hS, fun _ _ _ _ _ => rfl⟩
  · exact ⟨hS, fun _ _ _ _ _ => rfl⟩
  · exact sub m _ _ hG1 E1
  · exact ⟨h8 _, fun b k z1 _ _ => rk_get_ne (by omega)⟩
  · exact sub m _ _ hG1 E1
  · exact ⟨h8 _, fun b k z1 _ _ => rk_get_ne (by omega)⟩
  · exact ⟨hS, fun _ _ _ _ _ => rfl⟩
/-- code of the class: nothing happens, or nothing is kept any more -/
theorem code_S {n d : Nat} {h : rk_S} {o : Option Value × rk_S} {r c : Int32} (hG : yG h) (hI : rk_Iv rk_Y h) (hC : lC3 h) (hK : K1 h) (E : rk_ex n d rm_X7_code 0 [(0, .ref 1), (1, .int r), (2, .int c)] [] h = some o) : (∀ b k, rk_get o.2 b k = rk_get h b k) ∨ ((gi o.2 20 1).toInt = 0 ∧ (∃ x : Int32, o.1 = some (.int x) ∧ 0 < x.toInt) ∧ ∀ b k, ¬ (b = 1 ∧ k = 8) → ¬ (4 ≤ b ∧ b ≤ 17) → ¬ (b = 20 ∧ k = 1) → rk_get o.2 b k = rk_get h b k) := by
  have hP := E_wp (codeX_ok (D := 4) (Nat.le_refl _) hI r c) E
  obtain ⟨hI', x, hx, hP⟩ := hP
  obtain ⟨xn, -, n2, n3⟩ := x_fok_ok hI ty_25
  rw [← n3] at n2
  have n4 := x_one1 n2
  rcases hP with ⟨a1, a2, a3⟩ | ⟨a1, a2, a3, a4, a5⟩ | ⟨a1, a2, a3, a4, a5, a6⟩ | ⟨a2, a3, a4, a5, a1, a6, a7, a8⟩
  · exact Or.inl (fun b k => a3 b k id)
  · exact Or.inl (fun b k => a5 b k id)
  · exact Or.inl (fun b k => a6 b k id)
  refine Or.inr ?_
  obtain ⟨xl, -, l2, l3⟩ := x_aok_ok hI ty_14 (k := r.toInt.toNat) (by omega)
  rw [← l3] at l2
  have l4 := x_one1 l2
  have hx0 : ∃ x : Int32, o.1 = some (.int x) ∧ 0 < x.toInt := ⟨x, hx, by omega⟩
  rcases yt_cod hG E with ⟨c1, -, rfl⟩ | ⟨-, c1, -, rfl⟩ | ⟨c1, c2, m, hm, hG', E'⟩
  · omega
  · rw [gi_iv] at c1; omega
  obtain ⟨m1, d1, o1, hm1, E1, E2⟩ := E_call (ar := ([.int c], [])) rfl rfl rfl rfl rfl rfl E'
  replace E1 : rk_ex m1 d1 rm_X7_isCode 0 [(0, .int c)] [] h = some o1 := E1
  obtain ⟨q, rfl⟩ := isC_ok hG' E1
  replace E2 : rk_ex m1 d rm_X7_code 17 [(0, .ref 1), (1, .int r), (2, .int c)] [.int q] h = some o := E2
  have key : ∀ m, rk_ex m d rm_X7_code 45 [(0, .ref 1), (1, .int r), (2, .int c)] [.int c, .int r, .ref 2] h = some o → (gi o.2 20 1).toInt = 0 ∧ ∀ b k, ¬ (b = 1 ∧ k = 8) → ¬ (4 ≤ b ∧ b ≤ 17) → ¬ (b = 20 ∧ k = 1) → rk_get o.2 b k = rk_get h b k := by
    intro m E3
    obtain ⟨m2, d2, o2, hm2, E4, E5⟩ := E_call (ar := ([.ref 2, .int r, .int c], [])) rfl rfl rfl rfl rfl rfl E3
    have hcon := E_con k_37 rfl hI (av := [.ref 2, .int r, .int c]) ⟨List.mem_cons_self, xany_ok r, xin_1 (by unfold cV at a4; omega) (by unfold cV at a4; omega), trivial⟩ E4
    replace E4 : rk_ex m2 d2 rm_X3_addCode 0 [(0, .ref 2), (1, .int r), (2, .int c)] [] h = some o2 := E4
    obtain ⟨h1, rfl, hG1, hK1⟩ := addCode_K1 (rn := r.toInt.toNat) (ln := (rk_iv h 14 r.toInt.toNat).toNat) (N := (rk_iv h 2 5).toNat) hG hK (by omega) (by omega) (by omega) (by omega) (fun r hr hn => hC.2.2.1 r hr (by omega)) (by omega) (by omega) a4 E4
    replace E5 : rk_ex m2 d rm_X7_code 48 [(0, .ref 1), (1, .int r), (2, .int c)] [] h1 = some o := E5
    obtain ⟨m3, hm3, hG3, E6⟩ := yt_cod2 hG1 E5
    obtain ⟨m4, d4, o4, hm4, E7, E8⟩ := E_call (ar := ([.ref 20], [])) rfl rfl rfl rfl rfl rfl E6
    obtain ⟨hG2, rfl⟩ := yq_da hG1 E7
    replace E8 : rk_ex m4 d rm_X7_code 55 [(0, .ref 1), (1, .int r), (2, .int c)] [.int (gi h1 20 1)] (rk_pt h1 20 1 (.int (0 : Int32))) = some o := E8
    obtain ⟨m5, hm5, hG5, E9⟩ := yt_cod3 hG2 E8
    obtain ⟨m6, d6, o6, hm6, E10, E11⟩ := E_call (ar := ([.ref 2], [.int (gi (rk_pt h1 20 1 (.int (0 : Int32))) 1 8), .ref 1])) rfl rfl rfl rfl rfl rfl E9
    have e1 : ∀ b k, ¬ (4 ≤ b ∧ b ≤ 17) → ¬ (b = 20 ∧ k = 1) → rk_get (rk_pt h1 20 1 (.int (0 : Int32))) b k = rk_get h b k := fun b k z1 z2 => (rk_get_ne (by omega)).trans (hcon.2.1 b k (fun z => z1 (xCov_37 z)))
    have e25 : rk_iv (rk_pt h1 20 1 (.int (0 : Int32))) 2 5 = rk_iv h 2 5 := rk_iv_eq (e1 2 5 (by omega) (by omega))
    have e20 : (gi (rk_pt h1 20 1 (.int (0 : Int32))) 20 1).toInt = 0 := by
      rw [gi_s (yE_20 hG1)]
      rfl
    generalize rk_pt h1 20 1 (.int (0 : Int32)) = h2 at *
    obtain ⟨w, rfl, hw⟩ := kb_ok (N := (rk_iv h 2 5).toNat) hG5 (by rw [e25]; omega) (by omega) E10
    replace E11 : rk_ex m6 d rm_X7_code 68 [(0, .ref 1), (1, .int r), (2, .int c)] [.int w, .int (gi h2 1 8), .ref 1] h2 = some o := E11
    have fin : ∀ x : Int32, (gi (rk_pt h2 1 8 (.int x)) 20 1).toInt = 0 ∧ ∀ b k, ¬ (b = 1 ∧ k = 8) → ¬ (4 ≤ b ∧ b ≤ 17) → ¬ (b = 20 ∧ k = 1) → rk_get (rk_pt h2 1 8 (.int x)) b k = rk_get h b k := fun x => ⟨by rw [gi_x (by decide)]; exact e20, fun b k z1 z2 z3 => (rk_get_ne (by omega)).trans (e1 b k z2 z3)⟩
    rcases yt_cod4 hG5 E11 with ⟨-, -, rfl⟩ | ⟨-, -, -, rfl⟩ | ⟨-, -, -, rfl⟩ <;> exact fin _
  rcases yt_cod1 hG' E2 with ⟨-, -, m, -, -, E3⟩ | ⟨-, -, -, m, -, -, E3⟩ | ⟨-, -, -, -, m, -, -, E3⟩ | ⟨-, -, -, c4, -, rfl⟩ | ⟨-, -, rfl⟩
  · exact ⟨(key m E3).1, hx0, (key m E3).2⟩
  · exact ⟨(key m E3).1, hx0, (key m E3).2⟩
  · exact ⟨(key m E3).1, hx0, (key m E3).2⟩
  · cases hx
    have : ((-4 : Int32)).toInt = -4 := rfl
    omega
  · cases hx
    have : ((-2 : Int32)).toInt = -2 := rfl
    omega
/-- code of the reference: nothing happens, or nothing is kept any more -/
theorem codeM_S {n d : Nat} {h : rk_S} {o : Option Value × rk_S} {q c : Int32} (hG : yG h) (hI : rk_Iv rk_Y h) (hz : ∀ r : Nat, r < 10 → rk_iv h 316 0 ≤ r → rk_iv h 317 r = 0) (E : rk_ex n d rm_X8_code 0 [(0, .ref 316), (1, .int q), (2, .int c)] [] h = some o) : (o.2 = h ∧ ∃ x : Int32, o.1 = some (.int x) ∧ x.toInt < 0) ∨ ((gi o.2 322 0).toInt = 0 ∧ ∀ b k, ¬ (317 ≤ b ∧ b ≤ 319) → ¬ (b = 322 ∧ k = 0) → rk_get o.2 b k = rk_get h b k) := by
  obtain ⟨xn, -, n2, n3⟩ := x_fok_ok hI ty_3160
  rw [← n3] at n2
  have n4 := x_one1 n2
  have hlen : ∀ k, k < 10 → 0 ≤ rk_iv h 317 k ∧ rk_iv h 317 k ≤ 40 := by
    intro k hk
    obtain ⟨xl, -, l2, l3⟩ := x_aok_ok hI ty_317 (k := k) hk
    rw [← l3] at l2
    exact x_one1 l2
  have A := yt_mc hG E
  rw [y_dec (N := (rk_iv h 316 0).toNat) (by rw [gi_iv]; omega) (by omega)] at A
  rcases A with ⟨c1, -, rfl⟩ | ⟨c1, c2, -, rfl⟩ | ⟨c1, c2, m, -, -, E'⟩
  · exact Or.inl ⟨rfl, _, rfl, by decide⟩
  · exact Or.inl ⟨rfl, _, rfl, by decide⟩
  obtain ⟨m1, d1, o1, hm1, E1, E2⟩ := E_call (ar := ([.int c], [])) rfl rfl rfl rfl rfl rfl E'
  replace E1 : rk_ex m1 d1 rm_X8_isCode 0 [(0, .int c)] [] h = some o1 := E1
  obtain ⟨x, rfl⟩ := yt_mic hG E1
  replace E2 : rk_ex m1 d rm_X8_code 14 [(0, .ref 316), (1, .int q), (2, .int c)] [.int x] h = some o := E2
  have hq : q.toInt = (q.toInt.toNat : Nat) := by omega
  have eq := y_ix hq
  have hl := hlen q.toInt.toNat (by omega)
  have B := yt_mc1 hG E2
  rw [eq] at B
  rcases B with ⟨-, c3, m2, -, hG1, E3⟩ | ⟨-, -, -, rfl⟩ | ⟨-, -, rfl⟩
  · refine Or.inr ?_
    rw [gi_iv] at c3
    have e317 : (gi h 317 q.toInt.toNat).toInt = ((rk_iv h 317 q.toInt.toNat).toNat : Nat) := by rw [gi_iv]; omega
    have e1 : rk_iv (rk_pt (rk_pt (rk_pt h 318 ((((40 : Int32) * q) + (gi h 317 q.toInt.toNat)).toNatClampNeg) (.int c)) 317 q.toInt.toNat (.int ((gi h 317 q.toInt.toNat) + (1 : Int32)))) 322 0 (.int (0 : Int32))) 317 q.toInt.toNat = rk_iv h 317 q.toInt.toNat + 1 := by
      obtain ⟨_, w7, -, -, -, -, x7⟩ := hG.at (a := 317) (k := q.toInt.toNat) (by decide) (by decide) (by rw [yln_319.2.1]; omega)
      rw [← gi_iv, gi_x (by decide), gi_self (w := w7) (by rw [rk_get_ne (Or.inl (by decide))]; exact x7), y_inc e317 (by omega)]
      omega
    have e2 : ∀ b k, ¬ (b = 318) → ¬ (b = 317 ∧ k = q.toInt.toNat) → ¬ (b = 322 ∧ k = 0) → rk_get (rk_pt (rk_pt (rk_pt h 318 ((((40 : Int32) * q) + (gi h 317 q.toInt.toNat)).toNatClampNeg) (.int c)) 317 q.toInt.toNat (.int ((gi h 317 q.toInt.toNat) + (1 : Int32)))) 322 0 (.int (0 : Int32))) b k = rk_get h b k := fun b k z1 z2 z3 => (rk_get_ne (by omega)).trans ((rk_get_ne (by omega)).trans (rk_get_ne (Or.inl (by omega))))
    have e3 : (gi (rk_pt (rk_pt (rk_pt h 318 ((((40 : Int32) * q) + (gi h 317 q.toInt.toNat)).toNatClampNeg) (.int c)) 317 q.toInt.toNat (.int ((gi h 317 q.toInt.toNat) + (1 : Int32)))) 322 0 (.int (0 : Int32))) 322 0).toInt = 0 := by
      rw [gi_s (yE_pt.mpr (yE_pt.mpr (yE_322 hG)))]
      rfl
    generalize rk_pt (rk_pt (rk_pt h 318 ((((40 : Int32) * q) + (gi h 317 q.toInt.toNat)).toNatClampNeg) (.int c)) 317 q.toInt.toNat (.int ((gi h 317 q.toInt.toNat) + (1 : Int32)))) 322 0 (.int (0 : Int32)) = H at *
    obtain ⟨g1, g2⟩ := mc_loop (N := (rk_iv h 316 0).toNat) (by omega) m2 d H o q c 0 0 hG1 (by rw [rk_iv_eq (e2 316 0 (by omega) (by omega) (by omega))]; omega) (fun k hk => by
      by_cases e : k = q.toInt.toNat
      · rw [e, e1]; omega
      · rw [rk_iv_eq (e2 317 k (by omega) (by omega) (by omega))]; exact (hlen k hk).2) (fun r hr hn => by
      rw [rk_iv_eq (e2 317 r (by omega) (by omega) (by omega))]; exact hz r hr (by omega)) (fun r hr => by
      rw [rk_iv_eq (e2 319 r (by omega) (by omega) (by omega))]; exact h01_of hI r hr) rfl (by omega) E3
    exact ⟨by rw [gi_eq (g1 322 0 (by omega))]; exact e3, fun b k z1 z2 => (g1 b k (by omega)).trans (e2 b k (by omega) (by omega) z2)⟩
  · exact Or.inl ⟨rfl, _, rfl, by decide⟩
  · exact Or.inl ⟨rfl, _, rfl, by decide⟩
/-- keep of the reference -/
theorem kpM_V {n d : Nat} {h : rk_S} {o : Option Value × rk_S} {q z : Int32} (hG : yG h) (hI : rk_Iv rk_Y h) (hC : lC3 h) (hV : VM N ln cd 0 h) (E : rk_ex n d rm_X8_keep 0 [(0, .ref 316), (1, .int q), (2, .int z)] [] h = some o) : VM N ln cd 0 o.2 ∧ ∀ b k, b ≠ 319 → ¬ (b = 316 ∧ k = 21) → ¬ (mtb 0 b k ∧ 322 ≤ b) → rk_get o.2 b k = rk_get h b k := by
  obtain ⟨M, f1, f2, f3, f4⟩ := y_mfacts hI hC
  have A := yt_mk hG E
  rw [y_dec (N := M) (by rw [gi_iv, f1]) f2] at A
  rcases A with ⟨c1, -, rfl⟩ | ⟨c1, c2, -, rfl⟩ | ⟨c1, c2, m, -, -, E'⟩
  · exact ⟨hV, fun _ _ _ _ _ => rfl⟩
  · exact ⟨hV, fun _ _ _ _ _ => rfl⟩
  obtain ⟨m1, d1, o1, hm1, E1, E2⟩ := E_call (ar := ([.ref 316, .int q], [])) rfl rfl rfl rfl rfl rfl E'
  obtain ⟨u, rfl, hu⟩ := mac_ok (qn := q.toInt.toNat) hG f1 f2 f3 f4 (by omega) (by omega) E1
  replace E2 : rk_ex m1 d rm_X8_keep 15 [(0, .ref 316), (1, .int q), (2, .int z)] [.int u] h = some o := E2
  have sub : ∀ (m : Nat) (y w : Int32), yG (rk_pt h 319 q.toNatClampNeg (.int w)) → rk_ex m d rm_X8_keep 43 [(3, .int y), (0, .ref 316), (1, .int q), (2, .int z)] [] (rk_pt h 319 q.toNatClampNeg (.int w)) = some o → VM N ln cd 0 o.2 ∧ ∀ b k, b ≠ 319 → ¬ (b = 316 ∧ k = 21) → ¬ (mtb 0 b k ∧ 322 ≤ b) → rk_get o.2 b k = rk_get h b k := by
    intro m y w hG1 E3
    obtain ⟨m2, hm2, hG2, E4⟩ := yq_mk2 hG1 E3
    have f : ∀ b k, b ≠ 319 → ¬ (b = 316 ∧ k = 21) → rk_get (rk_pt (rk_pt h 319 q.toNatClampNeg (.int w)) 316 21 (.int (0 : Int32))) b k = rk_get h b k := fun b k z1 z2 => (rk_get_ne (by omega)).trans (rk_get_ne (by omega))
    have e21 : (gi (rk_pt (rk_pt h 319 q.toNatClampNeg (.int w)) 316 21 (.int (0 : Int32))) 316 21).toInt = ((0 : Nat) : Int) := by
      rw [gi_s (yE_pt.mpr (yE_m hG (by decide)))]
      rfl
    rw [gi_x (a := 319) (a' := 322) (by decide)] at E4
    obtain ⟨cn, v1, v2, v3⟩ := id hV
    have hc : ((gi h 322 0) - (1 : Int32)).toInt = (cn : Int) - 1 := by
      rw [Int32.toInt_sub, v1, show (1 : Int32).toInt = 1 from rfl, rk_bm (by omega) (by omega)]
    obtain ⟨h', rfl, g1, g2, g3⟩ := kp_loop m2 d _ o _ cn hG2 e21 (by rw [gi_eq (f _ _ (by omega) (by omega))]; exact v1) (by rw [hc]; omega) (by rw [hc]; omega) (VM_eq (fun b k z1 z2 => f b k (by omega) (by omega)) hV) E4
    exact ⟨g2, fun b k z1 z2 z3 => (g3 b k z3).trans (f b k z1 z2)⟩
  rcases yt_mk1 hG E2 with ⟨-, -, m2, -, hG1, E3⟩ | ⟨-, -, m2, -, hG1, E3⟩ | ⟨-, -, rfl⟩
  · exact sub m2 _ _ hG1 E3
  · exact sub m2 _ _ hG1 E3
  · exact ⟨hV, fun _ _ _ _ _ => rfl⟩
/-- room of the reference -/
theorem rmM_V {n d : Nat} {h : rk_S} {o : Option Value × rk_S} {a b : Int32} (hG : yG h) (hV : VM N ln cd 0 h) (E : rk_ex n d rm_X8_room 0 [(0, .ref 316), (1, .int a), (2, .int b)] [] h = some o) : (∃ x : Int32, o.1 = some (.int x)) ∧ VM N ln cd 0 o.2 ∧ ∀ b k, ¬ (b = 316 ∧ (k = 4 ∨ k = 5 ∨ k = 21)) → ¬ (mtb 0 b k ∧ 322 ≤ b) → rk_get o.2 b k = rk_get h b k := by
  rcases ym_rm0 hG E with ⟨-, -, rfl⟩ | ⟨-, -, -, rfl⟩ | ⟨-, -, -, -, rfl⟩ | ⟨-, -, -, -, -, rfl⟩ | ⟨c1, c2, -, -, m, hm, hG1, E1⟩
  · exact ⟨⟨_, rfl⟩, hV, fun _ _ _ _ => rfl⟩
  · exact ⟨⟨_, rfl⟩, hV, fun _ _ _ _ => rfl⟩
  · exact ⟨⟨_, rfl⟩, hV, fun _ _ _ _ => rfl⟩
  · exact ⟨⟨_, rfl⟩, hV, fun _ _ _ _ => rfl⟩
  have f : ∀ b' k, ¬ (b' = 316 ∧ (k = 4 ∨ k = 5 ∨ k = 21)) → rk_get (rk_pt (rk_pt (rk_pt h 316 4 (.int a)) 316 5 (.int b)) 316 21 (.int (0 : Int32))) b' k = rk_get h b' k := fun b' k z => (rk_get_ne (by omega)).trans ((rk_get_ne (by omega)).trans (rk_get_ne (by omega)))
  have e21 : (gi (rk_pt (rk_pt (rk_pt h 316 4 (.int a)) 316 5 (.int b)) 316 21 (.int (0 : Int32))) 316 21).toInt = ((0 : Nat) : Int) := by
    rw [gi_s (yE_pt.mpr (yE_pt.mpr (yE_m hG (by decide))))]
    rfl
  have e4 : (gi (rk_pt (rk_pt (rk_pt h 316 4 (.int a)) 316 5 (.int b)) 316 21 (.int (0 : Int32))) 316 4).toInt = (a.toInt.toNat : Int) := by
    rw [gi_y (by decide), gi_y (by decide), gi_s (yE_m hG (by decide))]
    omega
  obtain ⟨y, h', rfl, g1, g2, g3⟩ := rm_loop (rm := a.toInt.toNat) m d _ o 0 hG1 e21 e4 (VM_eq (fun b k z1 z2 => f b k (by omega)) hV) E1
  exact ⟨⟨_, rfl⟩, g2, fun b' k z1 z2 => (g3 b' k z2).trans (f b' k z1)⟩
/-- forget of the reference -/
theorem foM_V {n d : Nat} {h : rk_S} {o : Option Value × rk_S} (hG : yG h) (E : rk_ex n d rm_X8_forget 0 [(0, .ref 316)] [] h = some o) : (∃ x : Int32, o.1 = some (.int x)) ∧ (gi o.2 322 0).toInt = 0 ∧ ∀ b k, ¬ (b = 322 ∧ k = 0) → rk_get o.2 b k = rk_get h b k := by
  obtain ⟨-, rfl⟩ := yq_mfo hG E
  exact ⟨⟨_, rfl⟩, by rw [gi_s (yE_322 hG)]; rfl, fun b k z => rk_get_ne (by omega)⟩
/-- clear of the reference -/
theorem clM_L {n d : Nat} {h : rk_S} {o : Option Value × rk_S} (hG : yG h) (E : rk_ex n d rm_X8_clear 0 [(0, .ref 316)] [] h = some o) : (∃ x : Int32, o.1 = some (.int x)) ∧ LG N o.2 ∧ ∀ b k, ¬ (b = 316 ∧ k = 45) → rk_get o.2 b k = rk_get h b k := by
  obtain ⟨-, rfl⟩ := yq_mcl hG E
  have e : (gi (rk_pt h 316 45 (.int (0 : Int32))) 316 45).toInt = 0 := by
    rw [gi_s (yE_m hG (by decide))]
    rfl
  refine ⟨⟨_, rfl⟩, ⟨⟨by dsimp only; omega, by dsimp only; omega⟩, fun k hk z => ?_⟩, fun b k z => rk_get_ne (by omega)⟩
  dsimp only at z
  rw [e] at z
  omega
/-- log of the reference -/
theorem lgM_L {n d : Nat} {h : rk_S} {o : Option Value × rk_S} {r a b c : Int32} (hG : yG h) (hN : (gi h 316 0).toInt = N) (hN10 : N ≤ 10) (hL : LG N h) (E : rk_ex n d rm_X8_log 0 [(0, .ref 316), (1, .int r), (2, .int a), (3, .int b), (4, .int c)] [] h = some o) : (∃ x : Int32, o.1 = some (.int x)) ∧ LG N o.2 ∧ ∀ b k, ¬ (b = 316 ∧ k = 45) → b ≠ 344 → rk_get o.2 b k = rk_get h b k := by
  have A := yq_mlg hG E
  rw [y_dec (N := N) hN hN10] at A
  rcases A with ⟨c1, -, rfl⟩ | ⟨c1, c2, -, rfl⟩ | ⟨c1, c2, c3, hG1, rfl⟩ | ⟨c1, c2, c3, -, rfl⟩
  · exact ⟨⟨_, rfl⟩, hL, fun _ _ _ _ => rfl⟩
  · exact ⟨⟨_, rfl⟩, hL, fun _ _ _ _ => rfl⟩
  · obtain ⟨⟨l1, l2⟩, l3⟩ := hL
    have hg : (gi h 316 45).toInt = ((gi h 316 45).toInt.toNat : Nat) := by omega
    have e0 := y_mulc (cn := 4) (c := (4 : Int32)) rfl hg (by omega)
    have i0 : ((4 : Int32) * (gi h 316 45)).toNatClampNeg = 4 * (gi h 316 45).toInt.toNat := y_ix e0
    have i1 : (((4 : Int32) * (gi h 316 45)) + (1 : Int32)).toNatClampNeg = 4 * (gi h 316 45).toInt.toNat + 1 := y_ix (y_addc e0 (j := 1) rfl (by omega))
    have i2 : (((4 : Int32) * (gi h 316 45)) + (2 : Int32)).toNatClampNeg = 4 * (gi h 316 45).toInt.toNat + 2 := y_ix (y_addc e0 (j := 2) rfl (by omega))
    have i3 : (((4 : Int32) * (gi h 316 45)) + (3 : Int32)).toNatClampNeg = 4 * (gi h 316 45).toInt.toNat + 3 := y_ix (y_addc e0 (j := 3) rfl (by omega))
    rw [i0, i1, i2, i3]
    have hy : yE 344 (4 * (gi h 316 45).toInt.toNat) h := hG.yE (by decide) (by decide) (by rw [show yln 344 = 80 from rfl]; omega)
    have e45 := y_inc hg (by omega)
    refine ⟨⟨_, rfl⟩, ?_, fun b' k z1 z2 => (rk_get_ne (by omega)).trans ((rk_get_ne (by omega)).trans ((rk_get_ne (by omega)).trans ((rk_get_ne (by omega)).trans (rk_get_ne (by omega)))))⟩
    unfold LG
    dsimp only
    rw [gi_s (yE_pt.mpr (yE_pt.mpr (yE_pt.mpr (yE_pt.mpr (yE_m hG (by decide)))))), e45]
    refine ⟨⟨by omega, by omega⟩, fun k hk z => ?_⟩
    rw [gi_x (by decide), gi_y (by omega), gi_y (by omega), gi_y (by omega)]
    by_cases e : k = (gi h 316 45).toInt.toNat
    · rw [e, gi_s hy]
      omega
    · rw [gi_y (by omega)]
      exact l3 k hk (by omega)
  · exact ⟨⟨_, rfl⟩, hL, fun _ _ _ _ => rfl⟩
end RKLE
