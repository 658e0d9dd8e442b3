/-! keepable; what code does to what is told: the class -/
theorem bt_m1 (b : Nat) (hb : b < 32) : bt ((-1) : Int32) b = true := by
  have : ∀ b : Fin 32, bt ((-1) : Int32) b.val = true := by decide +kernel
  exact this ⟨b, hb⟩
theorem bt_xor (x y : Int32) (b : Nat) : bt (x ^^^ y) b = (bt x b ^^ bt y b) := by
  unfold bt
  rw [Int32.toBitVec_xor, BitVec.getLsbD_xor]
theorem bt_lt9 {x : Int32} (h : ∀ b, 9 ≤ b → bt x b = false) : 0 ≤ x.toInt ∧ x.toInt < 512 := by
  have h1 : x.toBitVec.toNat < 2 ^ 9 := Nat.lt_pow_two_of_testBit _ (fun i hi => h i hi)
  have e := BitVec.toInt_eq_toNat_cond x.toBitVec
  rw [Int32.toInt_toBitVec] at e
  rw [e, if_pos (by omega)]
  omega
theorem bc_ok {n d : Nat} {h : rk_S} {o : Option Value × rk_S} {f : Int32} (hG : yG h) (h0 : 0 ≤ f.toInt) (h1 : f.toInt < 512) (E : rk_ex n d rm_J6_bitCount_0f7a4 0 [(0, .int f)] [] h = some o) : ∃ y, o = (some (.int y), h) ∧ y.toInt < 10 := by
  obtain ⟨-, rfl⟩ := yt_bc hG E
  refine ⟨_, rfl, ?_⟩
  have key : ∀ z : Fin 512, (bcx (Int32.ofInt (z.val : Int))).toInt < 10 := by decide +kernel
  have := key ⟨f.toInt.toNat, by omega⟩
  dsimp only at this
  rw [Int.toNat_of_nonneg h0, Int32.ofInt_toInt] at this
  exact this
theorem fk_loop {h : rk_S} {N : Nat} (hG : yG h) (hN : rk_iv h 2 5 = N) (hN10 : N ≤ 10) : ∀ (n d : Nat) (o : Option Value × rk_S) (w f k : Int32) (kn : Nat), w.toInt = 10 → k.toInt = kn → kn ≤ N → (∀ b, bt f b = true ↔ (b < kn ∧ rk_iv h 15 b = 0)) → rk_ex n d rm_X3_firstKeepable 4 [(0, .ref 2), (1, .int w), (2, .int f), (3, .int k)] [] h = some o → ∃ f', o = (some (.int f'), h) ∧ ∀ b, bt f' b = true ↔ (b < N ∧ rk_iv h 15 b = 0) := by
  intro n
  induction n using Nat.strongRecOn with
  | ind n ih =>
    intro d o w f k kn hw hk hkN hf E
    have ek := y_ix hk
    have hk1 := y_inc hk (by omega)
    have A := yt_fk hG E
    simp only [gi_iv, hN] at A
    rcases A with ⟨c1, -, rfl⟩ | ⟨c1, m, hm, -, E'⟩
    · have : kn = N := by omega
      subst this
      exact ⟨f, rfl, hf⟩
    · obtain ⟨m1, d1, o1, hm1, E1, E2⟩ := E_call (ar := ([.int f], [])) rfl rfl rfl rfl rfl rfl E'
      replace E1 : rk_ex m1 d1 rm_J6_bitCount_0f7a4 0 [(0, .int f)] [] h = some o1 := E1
      have hfb := bt_lt9 (x := f) (fun b hb => by
        cases e : bt f b with
        | false => rfl
        | true =>
          have := (hf b).mp e
          omega)
      obtain ⟨y, rfl, hy⟩ := bc_ok hG hfb.1 hfb.2 E1
      replace E2 : rk_ex m1 d rm_X3_firstKeepable 16 [(0, .ref 2), (1, .int w), (2, .int f), (3, .int k)] [.int y] h = some o := E2
      have B := yt_fk1 hG E2
      simp only [gi_iv, ek] at B
      rcases B with ⟨c2, -, -⟩ | ⟨c2, c3, m2, hm2, -, E3⟩ | ⟨c2, c3, m2, hm2, -, E3⟩
      · omega
      · refine ih m2 (by omega) d o w f (k + 1) (kn + 1) hw hk1 (by omega) (fun b => ?_) E3
        rw [hf b]
        constructor
        · rintro ⟨h1, h2⟩
          exact ⟨by omega, h2⟩
        · rintro ⟨h1, h2⟩
          refine ⟨?_, h2⟩
          by_cases e : b = kn
          · rw [e] at h2
            exact absurd h2 c3
          · omega
      · refine ih m2 (by omega) d o w _ (k + 1) (kn + 1) hw hk1 (by omega) (fun b => ?_) E3
        rw [bt_or, Bool.or_eq_true, hf b, bt_shl (by omega) (by omega), decide_eq_true_eq, show k.toInt.toNat = kn by omega]
        constructor
        · rintro (⟨h1, h2⟩ | h1)
          · exact ⟨by omega, h2⟩
          · rw [h1]
            exact ⟨by omega, c3⟩
        · rintro ⟨h1, h2⟩
          by_cases e : b = kn
          · exact Or.inr e
          · exact Or.inl ⟨by omega, h2⟩
theorem kb_ok {n d : Nat} {h : rk_S} {o : Option Value × rk_S} {N : Nat} (hG : yG h) (hN : rk_iv h 2 5 = N) (hN10 : N ≤ 10) (E : rk_ex n d rm_X3_keepable 0 [(0, .ref 2)] [] h = some o) : ∃ f, o = (some (.int f), h) ∧ ∀ b, bt f b = true ↔ (b < N ∧ rk_iv h 15 b = 0) := by
  obtain ⟨m, hm, -, E'⟩ := yt_kb hG E
  obtain ⟨m1, d1, o1, hm1, E1, E2⟩ := E_call (ar := ([.ref 2, .int (10 : Int32)], [])) rfl rfl rfl rfl rfl rfl E'
  replace E1 : rk_ex m1 d1 rm_X3_firstKeepable 0 [(0, .ref 2), (1, .int (10 : Int32))] [] h = some o1 := E1
  obtain ⟨m2, hm2, -, E3⟩ := yt_fk0 hG E1
  obtain ⟨f, rfl, hf⟩ := fk_loop hG hN hN10 m2 d1 o1 10 0 0 0 rfl rfl (by omega) (fun b => by
    rw [bt_zero]
    constructor
    · intro z; cases z
    · rintro ⟨z, -⟩; omega) E3
  replace E2 : rk_ex m1 d rm_X3_keepable 6 [(0, .ref 2)] [.int f] h = some o := E2
  obtain ⟨-, rfl⟩ := yt_kb1 hG E2
  exact ⟨f, rfl, hf⟩
theorem xCov_37 {b k : Nat} (h : xCov c_37.2.2.1 b k) : 4 ≤ b ∧ b ≤ 17 := by
  obtain ⟨c, h1, h2, h3, h4, h5⟩ := h
  simp only [c_37, List.mem_cons, List.not_mem_nil, or_false] at h1
  subst h1
  exact ⟨h2, h3⟩
/-- what is told, behind a code that was taken -/
def TC (h h' : rk_S) : Prop := ∀ b, bt (gi h' 1 8) b = true ↔ (bt (gi h 1 8) b = true ∧ (b : Int) < rk_iv h 2 5 ∧ rk_iv h' 15 b = 0)
set_option maxRecDepth 100000 in
theorem yln_1 : yln 1 = 10 := rfl
theorem code_T {n d : Nat} {h : rk_S} {o : Option Value × rk_S} {r c : Int32} (hG : yG h) (hI : rk_Iv rk_Y h) (hC : lC3 h) (hK : K1 h) (E : rk_ex n d rm_X7_code 0 [(0, .ref 1), (1, .int r), (2, .int c)] [] h = some o) : (∀ b k, rk_get o.2 b k = rk_get h b k) ∨ TC h o.2 := by
  have hP := E_wp (codeX_ok (D := 4) (Nat.le_refl _) hI r c) E
  obtain ⟨hI', x, hx, hP⟩ := hP
  obtain ⟨xn, -, n2, n3⟩ := x_fok_ok hI ty_25
  rw [← n3] at n2
  have n4 := x_one1 n2
  rcases hP with ⟨a1, a2, a3⟩ | ⟨a1, a2, a3, a4, a5⟩ | ⟨a1, a2, a3, a4, a5, a6⟩ | ⟨a2, a3, a4, a5, a1, a6, a7, a8⟩
  · exact Or.inl (fun b k => a3 b k id)
  · exact Or.inl (fun b k => a5 b k id)
  · exact Or.inl (fun b k => a6 b k id)
  refine Or.inr ?_
  obtain ⟨xl, -, l2, l3⟩ := x_aok_ok hI ty_14 (k := r.toInt.toNat) (by omega)
  rw [← l3] at l2
  have l4 := x_one1 l2
  rcases yt_cod hG E with ⟨c1, -, rfl⟩ | ⟨-, c1, -, rfl⟩ | ⟨c1, c2, m, hm, hG', E'⟩
  · omega
  · rw [gi_iv] at c1; omega
  obtain ⟨m1, d1, o1, hm1, E1, E2⟩ := E_call (ar := ([.int c], [])) rfl rfl rfl rfl rfl rfl E'
  replace E1 : rk_ex m1 d1 rm_X7_isCode 0 [(0, .int c)] [] h = some o1 := E1
  obtain ⟨q, rfl⟩ := isC_ok hG' E1
  replace E2 : rk_ex m1 d rm_X7_code 17 [(0, .ref 1), (1, .int r), (2, .int c)] [.int q] h = some o := E2
  have key : ∀ m, rk_ex m d rm_X7_code 45 [(0, .ref 1), (1, .int r), (2, .int c)] [.int c, .int r, .ref 2] h = some o → TC h o.2 := by
    intro m E3
    obtain ⟨m2, d2, o2, hm2, E4, E5⟩ := E_call (ar := ([.ref 2, .int r, .int c], [])) rfl rfl rfl rfl rfl rfl E3
    have hcon := E_con k_37 rfl hI (av := [.ref 2, .int r, .int c]) ⟨List.mem_cons_self, xany_ok r, xin_1 (by unfold cV at a4; omega) (by unfold cV at a4; omega), trivial⟩ E4
    replace E4 : rk_ex m2 d2 rm_X3_addCode 0 [(0, .ref 2), (1, .int r), (2, .int c)] [] h = some o2 := E4
    obtain ⟨h1, rfl, hG1, hK1⟩ := addCode_K1 (rn := r.toInt.toNat) (ln := (rk_iv h 14 r.toInt.toNat).toNat) (N := (rk_iv h 2 5).toNat) hG hK (by omega) (by omega) (by omega) (by omega) (fun r hr hn => hC.2.2.1 r hr (by omega)) (by omega) (by omega) a4 E4
    replace E5 : rk_ex m2 d rm_X7_code 48 [(0, .ref 1), (1, .int r), (2, .int c)] [] h1 = some o := E5
    obtain ⟨m3, hm3, hG3, E6⟩ := yt_cod2 hG1 E5
    obtain ⟨m4, d4, o4, hm4, E7, E8⟩ := E_call (ar := ([.ref 20], [])) rfl rfl rfl rfl rfl rfl E6
    obtain ⟨hG2, hI2, f2, r2⟩ := E_conG k_54 rfl (by decide) hG3 hcon.1 (fun k z => by have := xCov_54 z; omega) (av := [.ref 20]) ⟨List.mem_cons_self, trivial⟩ E7
    obtain ⟨y, ey, -⟩ := xRes_int r2
    obtain ⟨v4, h2⟩ := o4
    dsimp only at ey f2 hI2 hG2
    subst ey
    replace E8 : rk_ex m4 d rm_X7_code 55 [(0, .ref 1), (1, .int r), (2, .int c)] [.int y] h2 = some o := E8
    obtain ⟨m5, hm5, hG5, E9⟩ := yt_cod3 hG2 E8
    obtain ⟨m6, d6, o6, hm6, E10, E11⟩ := E_call (ar := ([.ref 2], [.int (gi h2 1 8), .ref 1])) rfl rfl rfl rfl rfl rfl E9
    replace E10 : rk_ex m6 d6 rm_X3_keepable 0 [(0, .ref 2)] [] h2 = some o6 := E10
    have e1 : ∀ b k, ¬ (4 ≤ b ∧ b ≤ 17) → ¬ (20 ≤ b ∧ b ≤ 21) → ¬ (158 ≤ b ∧ b ≤ 159) → rk_get h2 b k = rk_get h b k := fun b k z1 z2 z3 => (f2 b k (fun z => by have := xCov_54 z; omega)).trans (hcon.2.1 b k (fun z => z1 (xCov_37 z)))
    have e25 : rk_iv h2 2 5 = rk_iv h 2 5 := rk_iv_eq (e1 2 5 (by omega) (by omega) (by omega))
    have e18 : gi h2 1 8 = gi h 1 8 := gi_eq (e1 1 8 (by omega) (by omega) (by omega))
    obtain ⟨w, rfl, hw⟩ := kb_ok (N := (rk_iv h 2 5).toNat) hG5 (by rw [e25]; omega) (by omega) E10
    replace E11 : rk_ex m6 d rm_X7_code 68 [(0, .ref 1), (1, .int r), (2, .int c)] [.int w, .int (gi h2 1 8), .ref 1] h2 = some o := E11
    have fin : TC h (rk_pt h2 1 8 (.int (gi h2 1 8 &&& w))) := by
      intro b
      rw [hG5.gi_put (by decide) (by decide) (by rw [yln_1]; decide), bt_and, Bool.and_eq_true, hw b, e18, rk_iv_eq (rk_get_ne (h := h2) (v := .int (gi h 1 8 &&& w)) (Or.inl (show (1 : Nat) ≠ 15 by decide)))]
      constructor
      · rintro ⟨h1, h2, h3⟩
        exact ⟨h1, by omega, h3⟩
      · rintro ⟨h1, h2, h3⟩
        exact ⟨h1, by omega, h3⟩
    rcases yt_cod4 hG5 E11 with ⟨-, -, rfl⟩ | ⟨-, -, -, rfl⟩ | ⟨-, -, -, rfl⟩ <;> exact fin
  rcases yt_cod1 hG' E2 with ⟨-, -, m, -, -, E3⟩ | ⟨-, -, -, m, -, -, E3⟩ | ⟨-, -, -, -, m, -, -, E3⟩ | ⟨-, -, -, c4, -, rfl⟩ | ⟨-, -, rfl⟩
  · exact key m E3
  · exact key m E3
  · exact key m E3
  · cases hx
    have : ((-4 : Int32)).toInt = -4 := rfl
    omega
  · cases hx
    have : ((-2 : Int32)).toInt = -2 := rfl
    omega
theorem xCov_55 {b k : Nat} (h : xCov c_55.2.2.1 b k) : (20 ≤ b ∧ b ≤ 21) ∨ (158 ≤ b ∧ b ≤ 159) := by
  obtain ⟨c, h1, h2, h3, h4, h5⟩ := h
  simp only [c_55, List.mem_cons, List.not_mem_nil, or_false] at h1
  rcases h1 with rfl | rfl <;> dsimp only at h2 h3 <;> omega
/-- keep of the class -/
def kpX (h : rk_S) (r z : Int) (v : Option Value) (h' : rk_S) : Prop := ∃ x : Int32, v = some (.int x) ∧
  (((r < 0 ∨ rk_iv h 2 5 ≤ r) ∧ x.toInt = -1 ∧ h' = h) ∨
   (0 ≤ r ∧ r < rk_iv h 2 5 ∧ ¬ rk_iv h 15 r.toNat = 0 ∧ x.toInt = -5 ∧ h' = h) ∨
   (0 ≤ r ∧ r < rk_iv h 2 5 ∧ rk_iv h 15 r.toNat = 0 ∧ ((x.toInt = 0 ∧ bt (gi h 1 8) r.toNat = false) ∨ (x.toInt = 1 ∧ bt (gi h 1 8) r.toNat = true)) ∧ (∀ b, b < 32 → (bt (gi h' 1 8) b = true ↔ ((b = r.toNat ∧ ¬ z = 0) ∨ (b ≠ r.toNat ∧ bt (gi h 1 8) b = true)))) ∧ ∀ b k, ¬ (b = 1 ∧ k = 8) → ¬ (20 ≤ b ∧ b ≤ 21) → ¬ (158 ≤ b ∧ b ≤ 159) → rk_get h' b k = rk_get h b k))
set_option maxRecDepth 100000 in
theorem ty_18 {h : rk_S} (hI : rk_Iv rk_Y h) (x : Int32) : rk_Iv rk_Y (rk_pt h 1 8 (.int x)) := by
  obtain ⟨nn, ts, hT⟩ : ∃ nn ts, xty 1 = some (7, nn, ts) := ⟨_, _, rfl⟩
  exact hI.put (k := 8) (xty_Y (q := (7, 10, [.inr [2], .inr [18], .inr [20], .inr [118], .inr [156], .inr [158], .inr [256], .inr [294], .inl [(-2147483648, 2147483647)], .inl [(0, 1)]])) rfl) (by decide) (xany_ok x)
theorem keepX_p {n d : Nat} {h : rk_S} {o : Option Value × rk_S} {r z : Int32} (hG : yG h) (hI : rk_Iv rk_Y h) (E : rk_ex n d rm_X7_keep 0 [(0, .ref 1), (1, .int r), (2, .int z)] [] h = some o) : kpX h r.toInt z.toInt o.1 o.2 := by
  obtain ⟨xn, -, n2, n3⟩ := x_fok_ok hI ty_25
  rw [← n3] at n2
  have n4 := x_one1 n2
  have A := yt_kp hG E
  simp only [gi_iv] at A
  have sub : ∀ (m : Nat) (y w : Int32), yG (rk_pt h 1 8 (.int w)) → rk_ex m d rm_X7_keep 82 [(3, .int y), (0, .ref 1), (1, .int r), (2, .int z)] [.int r, .ref 20] (rk_pt h 1 8 (.int w)) = some o → o.1 = some (.int y) ∧ gi o.2 1 8 = w ∧ ∀ b k, ¬ (b = 1 ∧ k = 8) → ¬ (20 ≤ b ∧ b ≤ 21) → ¬ (158 ≤ b ∧ b ≤ 159) → rk_get o.2 b k = rk_get h b k := by
    intro m y w hG1 E1
    obtain ⟨m1, d1, o1, hm1, E2, E3⟩ := E_call (ar := ([.ref 20, .int r], [])) rfl rfl rfl rfl rfl rfl E1
    obtain ⟨hG2, hI2, f2, r2⟩ := E_conG k_55 rfl (by decide) hG1 (ty_18 hI w) (fun k z => by have := xCov_55 z; omega) (av := [.ref 20, .int r]) ⟨List.mem_cons_self, xany_ok r, trivial⟩ E2
    obtain ⟨v1, h1⟩ := o1
    have e1 : v1 = none := by
      cases v1 with
      | none => rfl
      | some v => exact absurd r2 id
    subst e1
    replace E3 : rk_ex m1 d rm_X7_keep 85 [(3, .int y), (0, .ref 1), (1, .int r), (2, .int z)] [] h1 = some o := E3
    obtain ⟨-, rfl⟩ := yt_kp1 hG2 E3
    refine ⟨rfl, ?_, fun b k z1 z2 z3 => ?_⟩
    · show gi h1 1 8 = w
      rw [gi_eq (f2 1 8 (fun z => by have := xCov_55 z; omega))]
      exact hG.gi_put (by decide) (by decide) (by rw [yln_1]; decide) w
    · exact (f2 b k (fun z => by have := xCov_55 z; omega)).trans (rk_get_ne (by omega))
  have hset : ¬ r.toInt < 0 → ¬ rk_iv h 2 5 ≤ r.toInt → ∀ b, b < 32 → (bt ((gi h 1 8) ||| ((1 : Int32) <<< (r &&& 31))) b = true ↔ (b = r.toInt.toNat ∨ (b ≠ r.toInt.toNat ∧ bt (gi h 1 8) b = true))) := by
    intro g1 g2 b hb
    rw [bt_or, Bool.or_eq_true, bt_shl (by omega) (by omega), decide_eq_true_eq]
    constructor
    · rintro (q | q)
      · by_cases e : b = r.toInt.toNat
        · exact Or.inl e
        · exact Or.inr ⟨e, q⟩
      · exact Or.inl q
    · rintro (q | ⟨-, q⟩)
      · exact Or.inr q
      · exact Or.inl q
  have hclr : ¬ r.toInt < 0 → ¬ rk_iv h 2 5 ≤ r.toInt → ∀ b, b < 32 → (bt ((gi h 1 8) &&& (((1 : Int32) <<< (r &&& 31)) ^^^ ((-1) : Int32))) b = true ↔ (b ≠ r.toInt.toNat ∧ bt (gi h 1 8) b = true)) := by
    intro g1 g2 b hb
    rw [bt_and, Bool.and_eq_true, bt_xor, bt_m1 b hb, bt_shl (by omega) (by omega)]
    by_cases e : b = r.toInt.toNat
    · rw [decide_eq_true e]
      constructor
      · rintro ⟨-, q⟩; cases q
      · rintro ⟨q, -⟩; exact absurd e q
    · rw [decide_eq_false e]
      exact ⟨fun q => ⟨e, q.1⟩, fun q => ⟨q.2, rfl⟩⟩
  have hnat : ¬ r.toInt < 0 → r.toNatClampNeg = r.toInt.toNat := fun g => y_ix (by omega)
  have hb0 : ¬ r.toInt < 0 → ¬ rk_iv h 2 5 ≤ r.toInt → (((gi h 1 8) >>> (r &&& 31)) &&& (1 : Int32)).toInt = 0 → bt (gi h 1 8) r.toInt.toNat = false := fun g1 g2 q => (y_bit (by omega) (by omega)).mp q
  have hb1 : ¬ r.toInt < 0 → ¬ rk_iv h 2 5 ≤ r.toInt → ¬ (((gi h 1 8) >>> (r &&& 31)) &&& (1 : Int32)).toInt = 0 → bt (gi h 1 8) r.toInt.toNat = true := fun g1 g2 q => by
    cases e : bt (gi h 1 8) r.toInt.toNat with
    | true => rfl
    | false => exact absurd ((y_bit (by omega) (by omega)).mpr e) q
  have e5 : ((-5) : Int32).toInt = -5 := rfl
  have hput : ∀ w : Int32, gi (rk_pt h 1 8 (.int w)) 1 8 = w := fun w => hG.gi_put (by decide) (by decide) (by rw [yln_1]; decide) w
  rcases A with ⟨c1, -, rfl⟩ | ⟨c1, c2, -, rfl⟩ | ⟨c1, c2, c3, c4, c5, m, -, hG1, E1⟩ | ⟨c1, c2, c3, c4, c5, hG1, rfl⟩ | ⟨c1, c2, c3, c4, c5, m, -, hG1, E1⟩ | ⟨c1, c2, c3, c4, c5, hG1, rfl⟩ | ⟨c1, c2, c3, -, rfl⟩
  · exact ⟨_, rfl, Or.inl ⟨Or.inl c1, y_neg1, rfl⟩⟩
  · exact ⟨_, rfl, Or.inl ⟨Or.inr c2, y_neg1, rfl⟩⟩
  · obtain ⟨q1, q2, q3⟩ := sub m _ _ hG1 E1
    rw [hnat c1] at c3
    refine ⟨_, q1, Or.inr (Or.inr ⟨by omega, by omega, c3, Or.inl ⟨rfl, hb0 c1 c2 c4⟩, fun b hb => ?_, q3⟩)⟩
    rw [q2, hclr c1 c2 b hb]
    exact ⟨Or.inr, fun q => q.elim (fun q => absurd c5 q.2) id⟩
  · rw [hnat c1] at c3
    refine ⟨_, rfl, Or.inr (Or.inr ⟨by omega, by omega, c3, Or.inl ⟨rfl, hb0 c1 c2 c4⟩, fun b hb => ?_, fun b k z1 _ _ => rk_get_ne (by omega)⟩)⟩
    dsimp only
    rw [hput, hset c1 c2 b hb]
    exact ⟨fun q => q.imp (fun q => ⟨q, c5⟩) id, fun q => q.imp (fun q => q.1) id⟩
  · obtain ⟨q1, q2, q3⟩ := sub m _ _ hG1 E1
    rw [hnat c1] at c3
    refine ⟨_, q1, Or.inr (Or.inr ⟨by omega, by omega, c3, Or.inr ⟨rfl, hb1 c1 c2 c4⟩, fun b hb => ?_, q3⟩)⟩
    rw [q2, hclr c1 c2 b hb]
    exact ⟨Or.inr, fun q => q.elim (fun q => absurd c5 q.2) id⟩
  · rw [hnat c1] at c3
    refine ⟨_, rfl, Or.inr (Or.inr ⟨by omega, by omega, c3, Or.inr ⟨rfl, hb1 c1 c2 c4⟩, fun b hb => ?_, fun b k z1 _ _ => rk_get_ne (by omega)⟩)⟩
    dsimp only
    rw [hput, hset c1 c2 b hb]
    exact ⟨fun q => q.imp (fun q => ⟨q, c5⟩) id, fun q => q.imp (fun q => q.1) id⟩
  · rw [hnat c1] at c3
    exact ⟨_, rfl, Or.inr (Or.inl ⟨by omega, by omega, c3, e5, rfl⟩)⟩
