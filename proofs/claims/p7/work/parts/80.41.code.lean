/-! addCode, code: the rows stay closed -/
theorem addc_ok {n d : Nat} {h : rk_S} {o : Option Value × rk_S} {r c : Int32} {rn ln : Nat} (hG : yG h) (hr : r.toInt = rn) (hr10 : rn < 10) (hrN : (rn : Int) < rk_iv h 2 5) (hl : rk_iv h 14 rn = ln) (hl4 : ln < 40) (hc : cV c.toInt) (E : rk_ex n d rm_X3_addCode 0 [(0, .ref 2), (1, .int r), (2, .int c)] [] h = some o) : ∃ m H z y, m < n + 1 ∧ yG H ∧ adP rn ln c h H ∧ rk_ex m d rm_X3_addCode 150 [(4, .int z), (3, .int y), (0, .ref 2), (1, .int r), (2, .int c)] [.ref 2] H = some o := by
  have er := y_ix hr
  have e14 : (gi h 14 rn).toInt = ln := by rw [gi_iv, hl]
  have el := y_ix e14
  have hc0 : 0 ≤ c.toInt := by unfold cV at hc; omega
  obtain ⟨dv, md⟩ := y_dv hc0
  have A := yt_addc hG (by rw [er]; exact hr10) (by omega) (by rw [gi_iv]; omega) (by rw [er, e14]; omega) E
  rw [er, el, dv, md] at A
  unfold cV at hc
  rcases A with ⟨c1, m, hm, hG', E'⟩ | ⟨c1, m, hm, hG', E'⟩ | ⟨c1, m, hm, hG', E'⟩ | ⟨c1, m, hm, hG', E'⟩ | ⟨c1, m, hm, hG', E'⟩ | ⟨c1, c2, m, hm, hG', E'⟩ | ⟨c1, c2, m, hm, hG', E'⟩
  · exact ⟨m, _, _, _, hm, hG', ad_fin0 hG hr10 hl4 (fun cl b _ _ z => by unfold nw own at z; omega), E'⟩
  · exact ⟨m, _, _, _, hm, hG', ad_fin0 hG hr10 hl4 (fun cl b _ _ z => by unfold nw own at z; omega), E'⟩
  · refine ⟨m, _, _, _, hm, hG', ad_fin hG hr10 hl4 (by omega) (fun cl b _ _ => ?_), E'⟩
    rw [bt_shl (by rw [md]; omega) (by rw [md]; omega), md, decide_eq_true_eq]
    unfold nw own
    omega
  · refine ⟨m, _, _, _, hm, hG', ad_fin hG hr10 hl4 (by omega) (fun cl b _ _ => ?_), E'⟩
    rw [bt_one, decide_eq_true_eq]
    unfold nw own
    omega
  · refine ⟨m, _, _, _, hm, hG', ad_fin hG hr10 hl4 (by omega) (fun cl b _ _ => ?_), E'⟩
    rw [bt_shl (by rw [md]; omega) (by rw [md]; omega), md, decide_eq_true_eq]
    unfold nw own
    omega
  · refine ⟨m, _, _, _, hm, hG', ad_fin hG hr10 hl4 (by omega) (fun cl b _ _ => ?_), E'⟩
    rw [bt_zero]
    unfold nw own
    constructor
    · intro z; omega
    · rintro ⟨-, z⟩; cases z
  · refine ⟨m, _, _, _, hm, hG', ad_fin hG hr10 hl4 (by omega) (fun cl b _ _ => ?_), E'⟩
    rw [bt_two, decide_eq_true_eq]
    unfold nw own
    omega
theorem addCode_K1 {n d : Nat} {h : rk_S} {o : Option Value × rk_S} {r c : Int32} {rn ln N : Nat} (hG : yG h) (hK : K1 h) (hr : r.toInt = rn) (hN : rk_iv h 2 5 = N) (hN10 : N ≤ 10) (hrN : rn < N) (hz : ∀ r, r < 10 → N ≤ r → rk_iv h 14 r = 0) (hl : rk_iv h 14 rn = ln) (hl4 : ln < 40) (hc : cV c.toInt) (E : rk_ex n d rm_X3_addCode 0 [(0, .ref 2), (1, .int r), (2, .int c)] [] h = some o) : ∃ h', o = (none, h') ∧ yG h' ∧ K1 h' := by
  obtain ⟨m, H, z, y, hm, hG', hA, E'⟩ := addc_ok hG hr (by omega) (by omega) hl hl4 hc E
  obtain ⟨m1, d1, o1, hm1, E1, E2⟩ := E_call (ar := ([.ref 2], [])) rfl rfl rfl rfl rfl rfl E'
  replace E1 : rk_ex m1 d1 rm_X3_spreadToCallers 0 [(0, .ref 2)] [] H = some o1 := E1
  have e25 : gi H 2 5 = gi h 2 5 := gi_eq (hA.1 2 5 (by omega) (by omega))
  obtain ⟨h', rfl, hG1, hE⟩ := sp_ok hG' (by rw [e25, gi_iv, hN]) hN10 (sp0_add hK hrN hz hA) E1
  replace E2 : rk_ex m1 d rm_X3_addCode 153 [(4, .int z), (3, .int y), (0, .ref 2), (1, .int r), (2, .int c)] [] h' = some o := E2
  obtain ⟨hG2, rfl⟩ := yt_addc2 hG1 E2
  exact ⟨h', rfl, hG2, K1_add hK (by omega) hl hl4 hA hE⟩
theorem isC_ok {n d : Nat} {h : rk_S} {o : Option Value × rk_S} {c : Int32} (hG : yG h) (E : rk_ex n d rm_X7_isCode 0 [(0, .int c)] [] h = some o) : ∃ x, o = (some (.int x), h) := by
  rcases yt_isC hG E with ⟨-, -, z⟩ | ⟨-, -, -, -, -, z⟩ | ⟨-, -, -, -, -, -, z⟩ | ⟨-, -, -, -, -, -, z⟩ | ⟨-, -, -, -, -, z⟩ | ⟨-, -, -, -, -, -, z⟩ | ⟨-, -, -, -, -, -, z⟩ | ⟨-, -, -, -, z⟩ | ⟨-, -, -, -, -, z⟩ | ⟨-, -, -, -, -, z⟩ | ⟨-, -, -, -, -, z⟩ | ⟨-, -, -, -, -, z⟩ | ⟨-, -, -, -, -, z⟩ | ⟨-, -, -, -, -, z⟩ | ⟨-, -, -, -, -, z⟩ | ⟨-, -, -, -, -, z⟩ | ⟨-, -, -, -, -, z⟩ | ⟨-, -, -, -, -, z⟩ | ⟨-, -, -, z⟩ <;> exact ⟨_, z⟩
theorem xCov_54 {b k : Nat} (h : xCov c_54.2.2.1 b k) : (20 ≤ b ∧ b ≤ 21) ∨ (158 ≤ b ∧ b ≤ 159) := by
  obtain ⟨c, h1, h2, h3, h4, h5⟩ := h
  simp only [c_54, List.mem_cons, List.not_mem_nil, or_false] at h1
  rcases h1 with rfl | rfl <;> dsimp only at h2 h3 <;> omega
theorem xCov_0 {b k : Nat} (h : xCov [] b k) : False := by
  obtain ⟨c, h1, -⟩ := h
  cases h1
/-- code of the class: the rows stay closed -/
theorem code_K1 {n d : Nat} {h : rk_S} {o : Option Value × rk_S} {r c : Int32} (hG : yG h) (hI : rk_Iv rk_Y h) (hC : lC3 h) (hK : K1 h) (E : rk_ex n d rm_X7_code 0 [(0, .ref 1), (1, .int r), (2, .int c)] [] h = some o) : K1 o.2 := by
  have hP := E_wp (codeX_ok (D := 4) (Nat.le_refl _) hI r c) E
  obtain ⟨hI', x, hx, hP⟩ := hP
  obtain ⟨xn, -, n2, n3⟩ := x_fok_ok hI ty_25
  rw [← n3] at n2
  have n4 := x_one1 n2
  rcases hP with ⟨a1, a2, a3⟩ | ⟨a1, a2, a3, a4, a5⟩ | ⟨a1, a2, a3, a4, a5, a6⟩ | ⟨a2, a3, a4, a5, a1, a6, a7, a8⟩
  · exact K1_eq (fun b k _ _ => a3 b k id) hK
  · exact K1_eq (fun b k _ _ => a5 b k id) hK
  · exact K1_eq (fun b k _ _ => a6 b k id) hK
  obtain ⟨xl, -, l2, l3⟩ := x_aok_ok hI ty_14 (k := r.toInt.toNat) (by omega)
  rw [← l3] at l2
  have l4 := x_one1 l2
  rcases yt_cod hG E with ⟨c1, -, rfl⟩ | ⟨-, c1, -, rfl⟩ | ⟨c1, c2, m, hm, hG', E'⟩
  · omega
  · rw [gi_iv] at c1; omega
  obtain ⟨m1, d1, o1, hm1, E1, E2⟩ := E_call (ar := ([.int c], [])) rfl rfl rfl rfl rfl rfl E'
  replace E1 : rk_ex m1 d1 rm_X7_isCode 0 [(0, .int c)] [] h = some o1 := E1
  obtain ⟨q, rfl⟩ := isC_ok hG' E1
  replace E2 : rk_ex m1 d rm_X7_code 17 [(0, .ref 1), (1, .int r), (2, .int c)] [.int q] h = some o := E2
  have key : ∀ m, rk_ex m d rm_X7_code 45 [(0, .ref 1), (1, .int r), (2, .int c)] [.int c, .int r, .ref 2] h = some o → K1 o.2 := by
    intro m E3
    obtain ⟨m2, d2, o2, hm2, E4, E5⟩ := E_call (ar := ([.ref 2, .int r, .int c], [])) rfl rfl rfl rfl rfl rfl E3
    have hcon := E_con k_37 rfl hI (av := [.ref 2, .int r, .int c]) ⟨List.mem_cons_self, xany_ok r, xin_1 (by unfold cV at a4; omega) (by unfold cV at a4; omega), trivial⟩ E4
    replace E4 : rk_ex m2 d2 rm_X3_addCode 0 [(0, .ref 2), (1, .int r), (2, .int c)] [] h = some o2 := E4
    obtain ⟨h1, rfl, hG1, hK1⟩ := addCode_K1 (rn := r.toInt.toNat) (ln := (rk_iv h 14 r.toInt.toNat).toNat) (N := (rk_iv h 2 5).toNat) hG hK (by omega) (by omega) (by omega) (by omega) (fun r hr hn => hC.2.2.1 r hr (by omega)) (by omega) (by omega) a4 E4
    replace E5 : rk_ex m2 d rm_X7_code 48 [(0, .ref 1), (1, .int r), (2, .int c)] [] h1 = some o := E5
    obtain ⟨m3, hm3, hG3, E6⟩ := yt_cod2 hG1 E5
    obtain ⟨m4, d4, o4, hm4, E7, E8⟩ := E_call (ar := ([.ref 20], [])) rfl rfl rfl rfl rfl rfl E6
    obtain ⟨hG2, hI2, f2, r2⟩ := E_conG k_54 rfl (by decide) hG3 hcon.1 (fun k z => by have := xCov_54 z; omega) (av := [.ref 20]) ⟨List.mem_cons_self, trivial⟩ E7
    obtain ⟨y, ey, -⟩ := xRes_int r2
    obtain ⟨v4, h2⟩ := o4
    dsimp only at ey f2 hI2 hG2
    subst ey
    replace E8 : rk_ex m4 d rm_X7_code 55 [(0, .ref 1), (1, .int r), (2, .int c)] [.int y] h2 = some o := E8
    have hK2 : K1 h2 := K1_eq (fun b k h4 h17 => f2 b k (fun z => by have := xCov_54 z; omega)) hK1
    obtain ⟨m5, hm5, hG5, E9⟩ := yt_cod3 hG2 E8
    obtain ⟨m6, d6, o6, hm6, E10, E11⟩ := E_call (ar := ([.ref 2], [.int (gi h2 1 8), .ref 1])) rfl rfl rfl rfl rfl rfl E9
    obtain ⟨hG6, hI3, f3, r3⟩ := E_conG k_40 rfl (by decide) hG5 hI2 (fun k z => xCov_0 z) (av := [.ref 2]) ⟨List.mem_cons_self, trivial⟩ E10
    obtain ⟨w, ew, -⟩ := xRes_int r3
    obtain ⟨v6, h3⟩ := o6
    dsimp only at ew f3 hI3 hG6
    subst ew
    replace E11 : rk_ex m6 d rm_X7_code 68 [(0, .ref 1), (1, .int r), (2, .int c)] [.int w, .int (gi h2 1 8), .ref 1] h3 = some o := E11
    have hK3 : K1 h3 := K1_eq (fun b k h4 h17 => f3 b k xCov_0) hK2
    rcases yt_cod4 hG6 E11 with ⟨-, -, rfl⟩ | ⟨-, -, -, rfl⟩ | ⟨-, -, -, rfl⟩ <;> exact K1_eq (fun b k h4 h17 => rk_get_ne (Or.inl (by omega))) hK3
  rcases yt_cod1 hG' E2 with ⟨-, -, m, -, -, E3⟩ | ⟨-, -, -, m, -, -, E3⟩ | ⟨-, -, -, -, m, -, -, E3⟩ | ⟨-, -, -, c4, -, rfl⟩ | ⟨-, -, rfl⟩
  · exact key m E3
  · exact key m E3
  · exact key m E3
  · cases hx
    have : ((-4 : Int32)).toInt = -4 := rfl
    omega
  · cases hx
    have : ((-2 : Int32)).toInt = -2 := rfl
    omega
