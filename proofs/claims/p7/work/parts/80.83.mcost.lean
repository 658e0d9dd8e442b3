/-! the reference's cost and best: they try out in table 1, and leave table 0 as it is -/
section RKCO
variable {N : Nat} {ln : Nat → Nat} {cd : Nat → Nat → Int} {P : Nat → Prop}
def t1f (h h' : rk_S) : Prop := ∀ b k, ¬ (b = 316 ∧ ((20 ≤ k ∧ k ≤ 24) ∨ (34 ≤ k ∧ k ≤ 41))) → ¬ mtb 1 b k → ¬ (334 ≤ b ∧ b ≤ 342) → rk_get h' b k = rk_get h b k
theorem t1f_refl {h : rk_S} : t1f h h := fun _ _ _ _ _ => rfl
theorem t1f_trans {h h1 h2 : rk_S} (a : t1f h h1) (b : t1f h1 h2) : t1f h h2 := fun c k z1 z2 z3 => (b c k z1 z2 z3).trans (a c k z1 z2 z3)
/-- the runs told are of routines that are there -/
def LG (N : Nat) (h : rk_S) : Prop := (0 ≤ (gi h 316 45).toInt ∧ (gi h 316 45).toInt ≤ 20) ∧ ∀ k : Nat, k < 20 → (k : Int) < (gi h 316 45).toInt → 0 ≤ (gi h 344 (4 * k)).toInt ∧ (gi h 344 (4 * k)).toInt < (N : Int)
theorem LG_eq {h h' : rk_S} (he : ∀ b k, (b = 316 ∧ k = 45) ∨ b = 344 → rk_get h' b k = rk_get h b k) (hL : LG N h) : LG N h' := by
  unfold LG at hL ⊢
  rw [gi_eq (he 316 45 (by omega))]
  refine ⟨hL.1, fun k hk z => ?_⟩
  rw [gi_eq (he 344 (4 * k) (by omega))]
  exact hL.2 k hk z
theorem LG_t1 {h h' : rk_S} (ht : t1f h h') (hL : LG N h) : LG N h' := LG_eq (fun b k hb => ht b k (by omega) (by unfold mtb; omega) (by omega)) hL
theorem MP_t1 {h h' : rk_S} (ht : t1f h h') (hP : MP N ln cd h) : MP N ln cd h' := MP_eq (fun b k hb => ht b k (by omega) (by unfold mtb; omega) (by omega)) hP
theorem MW_is (tn : Nat) (h : rk_S) : MW tn h (fun s => gi h 320 (16 * tn + s)) (gi h 321 tn) := ⟨fun _ _ => rfl, rfl⟩
theorem VM_0 {tn : Nat} {h : rk_S} (h0 : (gi h 322 tn).toInt = 0) : VM N ln cd tn h := ⟨0, h0, by omega, fun i hi => by omega⟩
set_option maxRecDepth 100000 in
theorem cf_loop (hPu : ∀ r, P r → ∀ i, i < ln r → eok P N (cd r i)) {q p : Int32} {rm : Nat} (hq : ∀ r, r < N → bt q r = true → P r) (hp : p.toInt = rm) (hrm : rm ≤ 32) : ∀ (n d : Nat) (h : rk_S) (o : Option Value × rk_S) (x k : Int32) (kn : Nat), yG h → MP N ln cd h → VM N ln cd 1 h → LG N h → k.toInt = kn → rk_ex n d rm_X8_costOf 53 [(0, .ref 316), (1, .int q), (2, .int p), (3, .int x), (4, .int k)] [] h = some o → ∃ y h', o = (some (.int y), h') ∧ yG h' ∧ t1f h h' := by
  intro n
  induction n using Nat.strongRecOn with
  | ind n ih =>
    intro d h o x k kn hG hP hV hL hk E
    have A := yq_cf2 hG E
    rw [hk] at A
    rcases A with ⟨c1, -, rfl⟩ | ⟨c1, m, hm, -, E1⟩
    · exact ⟨_, h, rfl, hG, t1f_refl⟩
    have hl := hL.1
    have e4 : ((4 : Int32) * k).toNatClampNeg = 4 * kn := y_ix (y_mulc (cn := 4) rfl hk (by omega))
    rw [e4] at E1
    have hr := hL.2 kn (by omega) (by omega)
    obtain ⟨m1, d1, o1, hm1, E2, E3⟩ := E_call (ar := ([.ref 316, .int (1 : Int32), .int q, .int p, .int (gi h 344 (4 * kn)), .int (gi h 344 ((((4 : Int32) * k) + (1 : Int32)).toNatClampNeg)), .int (gi h 344 ((((4 : Int32) * k) + (2 : Int32)).toNatClampNeg)), .int (gi h 344 ((((4 : Int32) * k) + (3 : Int32)).toNatClampNeg))], [])) rfl rfl rfl rfl rfl rfl E1
    obtain ⟨h1, e, v, S', L', st', sr, wi, nr, rfl, -, g1, g2, -, -, -, g6⟩ := mgo_ok (tn := 1) (rn := (gi h 344 (4 * kn)).toInt.toNat) hPu (by omega) hG hP rfl hV hq hp hrm (by omega) (by omega) (MW_is 1 h) E2
    obtain ⟨m2, hm2, -, E4⟩ := yq_cf3 g1 E3
    have ht : t1f h h1 := g6
    obtain ⟨y, h', e1, e2, e3⟩ := ih m2 (by omega) d h1 o _ _ (kn + 1) g1 (MP_t1 ht hP) g2 (LG_t1 ht hL) (y_inc hk (by omega)) E4
    exact ⟨y, h', e1, e2, t1f_trans ht e3⟩
theorem cf_copy (hPu : ∀ r, P r → ∀ i, i < ln r → eok P N (cd r i)) {q p : Int32} {rm : Nat} (hq : ∀ r, r < N → bt q r = true → P r) (hp : p.toInt = rm) (hrm : rm ≤ 32) : ∀ (n d : Nat) (h : rk_S) (o : Option Value × rk_S) (x : Int32) (xn : Nat), yG h → MP N ln cd h → VM N ln cd 1 h → LG N h → x.toInt = xn → rk_ex n d rm_X8_costOf 21 [(0, .ref 316), (1, .int q), (2, .int p), (3, .int x)] [] h = some o → ∃ y h', o = (some (.int y), h') ∧ yG h' ∧ t1f h h' := by
  intro n
  induction n using Nat.strongRecOn with
  | ind n ih =>
    intro d h o x xn hG hP hV hL hx E
    rcases yq_cf1 hG E with ⟨c1, m, hm, -, E1⟩ | ⟨c1, m, hm, hG1, E1⟩
    · exact cf_loop hPu hq hp hrm m d h o 0 0 0 hG hP hV hL rfl E1
    · have e16 : ((16 : Int32) + x).toNatClampNeg = 16 + xn := y_ix (y_addc (i := 16) rfl hx (by omega))
      rw [e16] at hG1 E1
      have f : ∀ b k, ¬ (b = 320 ∧ k = 16 + xn) → rk_get (rk_pt h 320 (16 + xn) (.int (gi h 320 x.toNatClampNeg))) b k = rk_get h b k := fun b k z => rk_get_ne (by omega)
      have ht : t1f h (rk_pt h 320 (16 + xn) (.int (gi h 320 x.toNatClampNeg))) := fun b k z1 z2 z3 => f b k (fun z => z2 (by unfold mtb; omega))
      obtain ⟨y, h', e1, e2, e3⟩ := ih m hm d _ o _ (xn + 1) hG1 (MP_t1 ht hP) (VM_eq (fun b k z1 z2 => f b k (by omega)) hV) (LG_t1 ht hL) (y_inc hx (by omega)) E1
      exact ⟨y, h', e1, e2, t1f_trans ht e3⟩
theorem cf_ok (hPu : ∀ r, P r → ∀ i, i < ln r → eok P N (cd r i)) {q p : Int32} {rm : Nat} (hq : ∀ r, r < N → bt q r = true → P r) (hp : p.toInt = rm) (hrm : rm ≤ 32) {n d : Nat} {h : rk_S} {o : Option Value × rk_S} (hG : yG h) (hP : MP N ln cd h) (hL : LG N h) (E : rk_ex n d rm_X8_costOf 0 [(0, .ref 316), (1, .int q), (2, .int p)] [] h = some o) : ∃ y h', o = (some (.int y), h') ∧ yG h' ∧ t1f h h' := by
  obtain ⟨m, hm, hG1, E1⟩ := yq_cf0 hG E
  have f : ∀ b k, ¬ (b = 322 ∧ k = 1) → ¬ (b = 321 ∧ k = 1) → rk_get (rk_pt (rk_pt h 322 1 (.int (0 : Int32))) 321 1 (.int (gi h 321 0))) b k = rk_get h b k := fun b k z1 z2 => by rw [rk_get_ne (by omega), rk_get_ne (by omega)]
  have ht : t1f h (rk_pt (rk_pt h 322 1 (.int (0 : Int32))) 321 1 (.int (gi h 321 0))) := fun b k z1 z2 z3 => f b k (fun z => z2 (by unfold mtb; omega)) (fun z => z2 (by unfold mtb; omega))
  have hV : VM N ln cd 1 (rk_pt (rk_pt h 322 1 (.int (0 : Int32))) 321 1 (.int (gi h 321 0))) := VM_0 (by
    rw [gi_x (by decide), gi_s (hG.yE (by decide) (by decide) (by rw [yln_m.2.2.2.2.2.2.1]; decide))]
    rfl)
  obtain ⟨y, h', e1, e2, e3⟩ := cf_copy hPu hq hp hrm m d _ o 0 0 hG1 (MP_t1 ht hP) hV (LG_t1 ht hL) rfl E1
  exact ⟨y, h', e1, e2, t1f_trans ht e3⟩
/-- pure -/
theorem pu_loop {h : rk_S} (hG : yG h) (hN : rk_iv h 316 0 = N) (hN10 : N ≤ 10) (hlen : ∀ k, k < 10 → rk_iv h 317 k ≤ 40) (hz : ∀ r, r < 10 → N ≤ r → rk_iv h 317 r = 0) : ∀ (n d : Nat) (o : Option Value × rk_S) (w k : Int32) (kn : Nat), k.toInt = kn → (∀ b, bt w b = true → b < N ∧ ∀ i, ¬ may (cdm h) 15 b i) → rk_ex n d rm_X8_pure 4 [(0, .ref 316), (1, .int w), (2, .int k)] [] h = some o → ∃ y, o = (some (.int y), h) ∧ ∀ b, bt y b = true → b < N ∧ ∀ i, ¬ may (cdm h) 15 b i := by
  intro n
  induction n using Nat.strongRecOn with
  | ind n ih =>
    intro d o w k kn hk hw E
    have A := yq_pu hG E
    simp only [gi_iv, hN] at A
    rcases A with ⟨c1, -, rfl⟩ | ⟨c1, m, hm, -, E1⟩
    · exact ⟨_, rfl, hw⟩
    obtain ⟨m1, d1, o1, hm1, E2, E3⟩ := E_call (ar := ([.ref 316, .int k], [.int w])) rfl rfl rfl rfl rfl rfl E1
    obtain ⟨u, rfl, hu⟩ := mac_ok hG hN hN10 hlen hz hk (by omega) E2
    have hk1 := y_inc hk (by omega)
    rcases yq_pu1 hG E3 with ⟨c2, m2, hm2, -, E4⟩ | ⟨c2, m2, hm2, -, E4⟩
    · refine ih m2 (by omega) d o _ _ (kn + 1) hk1 (fun b hb => ?_) E4
      rw [bt_or, bt_zero, Bool.or_false] at hb
      exact hw b hb
    · refine ih m2 (by omega) d o _ _ (kn + 1) hk1 (fun b hb => ?_) E4
      rw [bt_or, bt_shl (by omega) (by omega), Bool.or_eq_true, decide_eq_true_eq] at hb
      rcases hb with hb | hb
      · exact hw b hb
      · have e : b = kn := by omega
        subst e
        exact ⟨by omega, fun i z => (bt_none0.mp c2) i ((hu i).mpr z)⟩
theorem pu_ok {n d : Nat} {h : rk_S} {o : Option Value × rk_S} (hG : yG h) (hN : rk_iv h 316 0 = N) (hN10 : N ≤ 10) (hlen : ∀ k, k < 10 → rk_iv h 317 k ≤ 40) (hz : ∀ r, r < 10 → N ≤ r → rk_iv h 317 r = 0) (E : rk_ex n d rm_X8_pure 0 [(0, .ref 316)] [] h = some o) : ∃ y, o = (some (.int y), h) ∧ ∀ b, bt y b = true → b < N ∧ ∀ i, ¬ may (cdm h) 15 b i := by
  obtain ⟨m, hm, -, E1⟩ := yq_pu0 hG E
  exact pu_loop hG hN hN10 hlen hz m d o 0 0 0 rfl (fun b hb => by rw [bt_zero] at hb; cases hb) E1
theorem co_ok (hPu : ∀ r, P r → ∀ i, i < ln r → eok P N (cd r i)) {q p : Int32} {n d : Nat} {h : rk_S} {o : Option Value × rk_S} (hG : yG h) (hP : MP N ln cd h) (hL : LG N h) (hlen : ∀ k, k < 10 → rk_iv h 317 k ≤ 40) (hz : ∀ r, r < 10 → N ≤ r → rk_iv h 317 r = 0) (hp : ∀ r, r < N → (∀ i, ¬ may (cdm h) 15 r i) → P r) (E : rk_ex n d rm_X8_cost 0 [(0, .ref 316), (1, .int q), (2, .int p)] [] h = some o) : ∃ y h', o = (some (.int y), h') ∧ yG h' ∧ t1f h h' := by
  rcases yq_co0 hG E with ⟨-, -, rfl⟩ | ⟨-, -, -, rfl⟩ | ⟨c1, c2, m, hm, -, E1⟩
  · exact ⟨_, h, rfl, hG, t1f_refl⟩
  · exact ⟨_, h, rfl, hG, t1f_refl⟩
  obtain ⟨m1, d1, o1, hm1, E2, E3⟩ := E_call (ar := ([.ref 316], [.int q, .ref 316])) rfl rfl rfl rfl rfl rfl E1
  obtain ⟨y, rfl, hy⟩ := pu_ok hG (by rw [← gi_iv]; exact hP.1) hP.2.1 hlen hz E2
  obtain ⟨m2, hm2, -, E4⟩ := yq_co1 hG E3
  obtain ⟨m3, d3, o3, hm3, E5, E6⟩ := E_call (ar := ([.ref 316, .int (q &&& y), .int p], [])) rfl rfl rfl rfl rfl rfl E4
  obtain ⟨x, h1, rfl, g1, g2⟩ := cf_ok (rm := p.toInt.toNat) hPu (fun r hr hb => by
    rw [bt_and, Bool.and_eq_true] at hb
    exact hp r hr (hy r hb.2).2) (by omega) (by omega) hG hP hL E5
  obtain ⟨-, rfl⟩ := yq_co2 g1 E6
  exact ⟨_, h1, rfl, g1, g2⟩
theorem bi_loop {h : rk_S} (hG : yG h) {q : Int32} : ∀ (n d : Nat) (o : Option Value × rk_S) (w k : Int32), rk_ex n d rm_X8_bits 4 [(0, .int q), (1, .int w), (2, .int k)] [] h = some o → ∃ y, o = (some (.int y), h) := by
  intro n
  induction n using Nat.strongRecOn with
  | ind n ih =>
    intro d o w k E
    rcases yq_bi hG E with ⟨-, -, rfl⟩ | ⟨-, m, hm, -, E1⟩
    · exact ⟨_, rfl⟩
    · exact ih m hm d o _ _ E1
theorem bi_ok {n d : Nat} {h : rk_S} {o : Option Value × rk_S} {q : Int32} (hG : yG h) (E : rk_ex n d rm_X8_bits 0 [(0, .int q)] [] h = some o) : ∃ y, o = (some (.int y), h) := by
  obtain ⟨m, hm, -, E1⟩ := yq_bi0 hG E
  exact bi_loop hG m d o _ _ E1
set_option maxRecDepth 100000 in
theorem be_loop (hPu : ∀ r, P r → ∀ i, i < ln r → eok P N (cd r i)) {p a w : Int32} (hp : 0 ≤ p.toInt ∧ p.toInt ≤ 32) (hw : ∀ r, r < N → bt w r = true → P r) (hN : N ≤ 10) : ∀ (n d : Nat) (h : rk_S) (o : Option Value × rk_S) (b l q u t : Int32), yG h → MP N ln cd h → LG N h → rk_ex n d rm_X8_best 76 [(0, .ref 316), (1, .int p), (2, .int a), (3, .int w), (4, .int b), (5, .int l), (6, .int q), (7, .int u), (8, .int t)] [] h = some o → ∃ y h', o = (some (.int y), h') ∧ yG h' ∧ t1f h h' := by
  intro n
  induction n using Nat.strongRecOn with
  | ind n ih =>
    intro d h o b l q u t hG hP hL E
    rcases yq_be4 hG E with ⟨-, -, rfl⟩ | ⟨-, -, m, hm, -, E1⟩ | ⟨-, c2, m, hm, -, E1⟩
    · exact ⟨_, h, rfl, hG, t1f_refl⟩
    · exact ih m hm d h o _ _ _ _ _ hG hP hL E1
    obtain ⟨m1, d1, o1, hm1, E2, E3⟩ := E_call (ar := ([.ref 316, .int q, .int p], [])) rfl rfl rfl rfl rfl rfl E1
    obtain ⟨c, h1, rfl, g1, g2⟩ := cf_ok (rm := p.toInt.toNat) hPu (fun r hr hb => by
      have z := bt_none0.mp c2 r
      rw [bt_and, Bool.and_eq_true, bt_xor, bt_m1 r (by omega), hb] at z
      refine hw r hr ?_
      cases e : bt w r with
      | true => rfl
      | false =>
        rw [e] at z
        exact absurd ⟨rfl, rfl⟩ z) (by omega) (by omega) hG hP hL E2
    have nx : ∀ (m2 : Nat) (b' l' q' u' t' : Int32), m2 < n → rk_ex m2 d rm_X8_best 76 [(0, .ref 316), (1, .int p), (2, .int a), (3, .int w), (4, .int b'), (5, .int l'), (6, .int q'), (7, .int u'), (8, .int t')] [] h1 = some o → ∃ y h', o = (some (.int y), h') ∧ yG h' ∧ t1f h h' := by
      intro m2 b' l' q' u' t' hm2 E4
      obtain ⟨y, h', e1, e2, e3⟩ := ih m2 hm2 d h1 o b' l' q' u' t' g1 (MP_t1 g2 hP) (LG_t1 g2 hL) E4
      exact ⟨y, h', e1, e2, t1f_trans g2 e3⟩
    rcases yq_be5 g1 E3 with ⟨-, -, m2, hm2, -, E4⟩ | ⟨-, -, m2, hm2, -, E4⟩ | ⟨-, -, -, m2, hm2, -, E4⟩ | ⟨-, -, -, m2, hm2, -, E4⟩ | ⟨-, -, m2, hm2, -, E4⟩
    · exact nx m2 _ _ _ _ _ (by omega) E4
    · exact nx m2 _ _ _ _ _ (by omega) E4
    · exact nx m2 _ _ _ _ _ (by omega) E4
    · exact nx m2 _ _ _ _ _ (by omega) E4
    obtain ⟨m3, d3, o3, hm3, E5, E6⟩ := E_call (ar := ([.int q], [])) rfl rfl rfl rfl rfl rfl E4
    obtain ⟨y3, rfl⟩ := bi_ok g1 E5
    obtain ⟨m4, hm4, -, E7⟩ := yq_be6 g1 E6
    obtain ⟨m5, d5, o5, hm5, E8, E9⟩ := E_call (ar := ([.int b], [.int y3])) rfl rfl rfl rfl rfl rfl E7
    obtain ⟨y5, rfl⟩ := bi_ok g1 E8
    rcases yq_be7 g1 E9 with ⟨-, -, m6, hm6, -, F⟩ | ⟨-, -, m6, hm6, -, F⟩ | ⟨-, -, m6, hm6, -, F⟩ | ⟨-, -, m6, hm6, -, F⟩
    · exact nx m6 _ _ _ _ _ (by omega) F
    · exact nx m6 _ _ _ _ _ (by omega) F
    · exact nx m6 _ _ _ _ _ (by omega) F
    · exact nx m6 _ _ _ _ _ (by omega) F
set_option maxRecDepth 100000 in
theorem be_some (hPu : ∀ r, P r → ∀ i, i < ln r → eok P N (cd r i)) {p a : Int32} (hp : 0 ≤ p.toInt ∧ p.toInt ≤ 32) (ha : ∀ r, r < N → bt a r = true → P r) {h : rk_S} (hG : yG h) (hP : MP N ln cd h) (hL : LG N h) : ∀ (n d : Nat) (o : Option Value × rk_S) (w k : Int32) (kn : Nat), k.toInt = kn → (∀ r, r < N → bt w r = true → P r) → rk_ex n d rm_X8_best 23 [(0, .ref 316), (1, .int p), (2, .int a), (3, .int w), (4, .int k)] [] h = some o → ∃ y h', o = (some (.int y), h') ∧ yG h' ∧ t1f h h' := by
  intro n
  induction n using Nat.strongRecOn with
  | ind n ih =>
    intro d o w k kn hk hw E
    have hN := hP.1
    have hN2 := hP.2.1
    have A := yq_be2 hG E
    rw [hN, hk] at A
    have h0 : ∀ r, r < N → bt (w ||| (0 : Int32)) r = true → P r := fun r hr hb => by
      rw [bt_or, bt_zero, Bool.or_false] at hb
      exact hw r hr hb
    rcases A with ⟨-, m, hm, -, E1⟩ | ⟨c1, -, m, hm, -, E1⟩ | ⟨c1, c2, m, hm, -, E1⟩
    · exact be_loop hPu hp hw hN2 m d h o _ _ _ _ _ hG hP hL E1
    · exact ih m hm d o _ _ (kn + 1) (y_inc hk (by omega)) h0 E1
    obtain ⟨m1, d1, o1, hm1, E2, E3⟩ := E_call (ar := ([.int w], [.int w])) rfl rfl rfl rfl rfl rfl E1
    obtain ⟨y, rfl⟩ := bi_ok hG E2
    rcases yq_be3 hG E3 with ⟨-, m2, hm2, -, E4⟩ | ⟨-, m2, hm2, -, E4⟩
    · exact ih m2 (by omega) d o _ _ (kn + 1) (y_inc hk (by omega)) h0 E4
    · refine ih m2 (by omega) d o _ _ (kn + 1) (y_inc hk (by omega)) (fun r hr hb => ?_) E4
      rw [bt_or, bt_shl (by omega) (by omega), Bool.or_eq_true, decide_eq_true_eq] at hb
      rcases hb with hb | hb
      · exact hw r hr hb
      · have e := (y_bit1 (by omega) (by omega)).mp c2
        rw [← hb] at e
        exact ha r hr e
set_option maxRecDepth 100000 in
theorem be_ok (hPu : ∀ r, P r → ∀ i, i < ln r → eok P N (cd r i)) {p : Int32} {n d : Nat} {h : rk_S} {o : Option Value × rk_S} (hG : yG h) (hP : MP N ln cd h) (hL : LG N h) (hlen : ∀ k, k < 10 → rk_iv h 317 k ≤ 40) (hz : ∀ r, r < 10 → N ≤ r → rk_iv h 317 r = 0) (hp : ∀ r, r < N → (∀ i, ¬ may (cdm h) 15 r i) → P r) (E : rk_ex n d rm_X8_best 0 [(0, .ref 316), (1, .int p)] [] h = some o) : ∃ y h', o = (some (.int y), h') ∧ yG h' ∧ t1f h h' := by
  rcases yq_be0 hG E with ⟨-, -, rfl⟩ | ⟨-, -, -, rfl⟩ | ⟨c1, c2, m, hm, -, E1⟩
  · exact ⟨_, h, rfl, hG, t1f_refl⟩
  · exact ⟨_, h, rfl, hG, t1f_refl⟩
  obtain ⟨m1, d1, o1, hm1, E2, E3⟩ := E_call (ar := ([.ref 316], [])) rfl rfl rfl rfl rfl rfl E1
  obtain ⟨y, rfl, hy⟩ := pu_ok hG (by rw [← gi_iv]; exact hP.1) hP.2.1 hlen hz E2
  obtain ⟨m2, hm2, -, E4⟩ := yq_be1 hG E3
  exact be_some hPu ⟨by omega, by omega⟩ (fun r hr hb => hp r hr (hy r hb).2) hG hP hL m2 d o 0 0 0 rfl (fun r hr hb => by rw [bt_zero] at hb; cases hb) E4
end RKCO
