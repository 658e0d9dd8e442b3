/-! the reference's kept ones: which holds, one goes, one more -/
theorem y_16 {c x j : Int32} {cn xn jn : Nat} (hc : c.toInt = cn) (hx : x.toInt = xn) (hj : j.toInt = jn) (hb : cn * xn + jn ≤ 100000) : (c * x + j).toInt = ((cn * xn + jn : Nat) : Int) := y_addc (y_mulc hc hx (by omega)) hj (by omega)
section RKMK
variable {tn : Nat}
theorem as_loop {h : rk_S} {y : Int32} {q : Nat} (hG : yG h) (ht : (gi h 316 21).toInt = tn) (htn : tn < 2) (hy : y.toInt = q) (hq : q < 64) : ∀ (n d : Nat) (o : Option Value × rk_S) (z j : Int32) (jn : Nat), j.toInt = jn → jn ≤ 16 → (¬ z.toInt = 0 → ∀ i, i < jn → bt (gi h 326 q) i = true → gi h 327 (16 * q + i) = gi h 320 (16 * tn + i)) → rk_ex n d rm_X8_areStores 4 [(0, .ref 316), (1, .int y), (2, .int z), (3, .int j)] [] h = some o → ∃ w, o = (some (.int w), h) ∧ (¬ w.toInt = 0 → ∀ i, i < 16 → bt (gi h 326 q) i = true → gi h 327 (16 * q + i) = gi h 320 (16 * tn + i)) := by
  have ey := y_ix hy
  intro n
  induction n using Nat.strongRecOn with
  | ind n ih =>
    intro d o z j jn hj hjn hp E
    have hj1 := y_inc hj (by omega)
    have A := ym_as hG E
    rw [ey, y_ix (y_16 (c := 16) (cn := 16) rfl hy hj (by omega)), y_ix (y_16 (c := 16) (cn := 16) rfl ht hj (by omega))] at A
    rcases A with ⟨c1, -, rfl⟩ | ⟨c1, c2, m, hm, -, E'⟩ | ⟨c1, c2, c3, m, hm, -, E'⟩ | ⟨c1, c2, c3, c4, m, hm, -, E'⟩ | ⟨c1, c2, c3, c4, m, hm, -, E'⟩
    · exact ⟨_, rfl, fun w i hi hb => hp w i (by omega) hb⟩
    · exact ih m hm d o _ _ (jn + 1) hj1 (by omega) (fun w => absurd rfl w) E'
    · refine ih m hm d o _ _ (jn + 1) hj1 (by omega) (fun _ i hi hb => ?_) E'
      by_cases e : i = jn
      · subst e
        have := (y_bit (by omega) (by omega)).mp c3
        rw [show j.toInt.toNat = i by omega, hb] at this
        cases this
      · exact hp c2 i (by omega) hb
    · exact ih m hm d o _ _ (jn + 1) hj1 (by omega) (fun w => absurd rfl w) E'
    · refine ih m hm d o _ _ (jn + 1) hj1 (by omega) (fun _ i hi hb => ?_) E'
      by_cases e : i = jn
      · subst e
        exact Int32.toInt_inj.mp c4
      · exact hp c2 i (by omega) hb
/-- what holds -/
def holdsM (h : rk_S) (tn q : Nat) (r : Int) (a : eS) : Prop := (gi h 323 q).toInt = r ∧ (∀ i, i < 3 → bt (gi h 324 q) i = true → gi h 325 (3 * q + i) = a i) ∧ ∀ s, s < 16 → bt (gi h 326 q) s = true → gi h 327 (16 * q + s) = gi h 320 (16 * tn + s)
theorem y_b1 {x : Int32} (h : (x &&& (1 : Int32)).toInt = 0) : bt x 0 = false := by
  have e2 : bt (x &&& (1 : Int32)) 0 = bt 0 0 := congrArg (fun z => bt z 0) (Int32.toInt_inj.mp h)
  rw [bt_and, bt_one, bt_zero] at e2
  simpa using e2
theorem y_b2 {x : Int32} (h : (x &&& (2 : Int32)).toInt = 0) : bt x 1 = false := by
  have e2 : bt (x &&& (2 : Int32)) 1 = bt 0 1 := congrArg (fun z => bt z 1) (Int32.toInt_inj.mp h)
  rw [bt_and, bt_two, bt_zero] at e2
  simpa using e2
theorem bt_four2 : bt 4 2 = true := by decide +kernel
theorem y_b4 {x : Int32} (h : (x &&& (4 : Int32)).toInt = 0) : bt x 2 = false := by
  have e2 : bt (x &&& (4 : Int32)) 2 = bt 0 2 := congrArg (fun z => bt z 2) (Int32.toInt_inj.mp h)
  rw [bt_and, bt_four2, bt_zero, Bool.and_true] at e2
  exact e2
theorem fd_loop {h : rk_S} {r a b c : Int32} {cn : Nat} (hG : yG h) (ht : (gi h 316 21).toInt = tn) (htn : tn < 2) (hcn : (gi h 322 tn).toInt = cn) (hc32 : cn ≤ 32) : ∀ (n d : Nat) (o : Option Value × rk_S) (y z0 : Int32) (i : Nat), y.toInt = ((32 * tn + i : Nat) : Int) → i ≤ 32 → rk_ex n d rm_X8_find 9 [(0, .ref 316), (1, .int r), (2, .int a), (3, .int b), (4, .int c), (5, .int y), (6, .int z0)] [] h = some o → ∃ w, o = (some (.int w), h) ∧ (¬ w.toInt < 0 → ∃ j, j < cn ∧ w.toInt = ((32 * tn + j : Nat) : Int) ∧ holdsM h tn (32 * tn + j) r.toInt (e3 a b c)) := by
  have et := y_ix ht
  have e32 : ((32 : Int32) * (gi h 316 21) + gi h 322 tn).toInt = ((32 * tn + cn : Nat) : Int) := y_16 (c := 32) (cn := 32) rfl ht hcn (by omega)
  intro n
  induction n using Nat.strongRecOn with
  | ind n ih =>
    intro d o y z0 i hy hi E
    have ey := y_ix hy
    have hy1 : (y + (1 : Int32)).toInt = ((32 * tn + (i + 1) : Nat) : Int) := by
      rw [y_inc hy (by omega)]
      omega
    have A := ym_fd hG E
    rw [et, e32, ey] at A
    -- from 174 on
    have end5 : ∀ (m : Nat) (z : Int32), m < n → i < cn → (¬ z.toInt = 0 → holdsM h tn (32 * tn + i) r.toInt (e3 a b c)) → rk_ex m d rm_X8_find 174 [(0, .ref 316), (1, .int r), (2, .int a), (3, .int b), (4, .int c), (5, .int y), (6, .int z)] [] h = some o → ∃ w, o = (some (.int w), h) ∧ (¬ w.toInt < 0 → ∃ j, j < cn ∧ w.toInt = ((32 * tn + j : Nat) : Int) ∧ holdsM h tn (32 * tn + j) r.toInt (e3 a b c)) := by
      intro m z hm hic hz E1
      rcases ym_fd5 hG E1 with ⟨c1, m1, hm1, -, E2⟩ | ⟨c1, -, rfl⟩
      · exact ih m1 (by omega) d o _ _ (i + 1) hy1 (by omega) E2
      · exact ⟨_, rfl, fun _ => ⟨i, hic, hy, hz c1⟩⟩
    -- from 58 on
    have mid : ∀ (m : Nat) (z : Int32), m < n → i < cn → (¬ z.toInt = 0 → (gi h 323 (32 * tn + i)).toInt = r.toInt ∧ ∀ s, s < 16 → bt (gi h 326 (32 * tn + i)) s = true → gi h 327 (16 * (32 * tn + i) + s) = gi h 320 (16 * tn + s)) → rk_ex m d rm_X8_find 58 [(0, .ref 316), (1, .int r), (2, .int a), (3, .int b), (4, .int c), (5, .int y), (6, .int z)] [] h = some o → ∃ w, o = (some (.int w), h) ∧ (¬ w.toInt < 0 → ∃ j, j < cn ∧ w.toInt = ((32 * tn + j : Nat) : Int) ∧ holdsM h tn (32 * tn + j) r.toInt (e3 a b c)) := by
      intro m z hm hic hz E1
      have k0 : ((3 : Int32) * y).toInt = ((3 * (32 * tn + i) : Nat) : Int) := y_mulc (cn := 3) rfl hy (by omega)
      have k1 : ((3 : Int32) * y + (1 : Int32)).toInt = ((3 * (32 * tn + i) + 1 : Nat) : Int) := y_addc k0 (j := 1) rfl (by omega)
      have k2 : ((3 : Int32) * y + (2 : Int32)).toInt = ((3 * (32 * tn + i) + 2 : Nat) : Int) := y_addc k0 (j := 2) rfl (by omega)
      have s2 : ∃ m2 z2, m2 < n ∧ (¬ z2.toInt = 0 → ¬ z.toInt = 0 ∧ (bt (gi h 324 (32 * tn + i)) 0 = true → gi h 325 (3 * (32 * tn + i)) = a)) ∧ rk_ex m2 d rm_X8_find 95 [(0, .ref 316), (1, .int r), (2, .int a), (3, .int b), (4, .int c), (5, .int y), (6, .int z2)] [] h = some o := by
        have B := ym_fd2 hG E1
        rw [ey, y_ix k0] at B
        rcases B with ⟨-, m2, hm2, -, E2⟩ | ⟨c1, c2, m2, hm2, -, E2⟩ | ⟨-, -, -, m2, hm2, -, E2⟩ | ⟨c1, c2, c3, m2, hm2, -, E2⟩
        · exact ⟨m2, _, by omega, fun w => absurd rfl w, E2⟩
        · exact ⟨m2, _, by omega, fun _ => ⟨c1, fun w => by rw [y_b1 c2] at w; cases w⟩, E2⟩
        · exact ⟨m2, _, by omega, fun w => absurd rfl w, E2⟩
        · exact ⟨m2, _, by omega, fun _ => ⟨c1, fun _ => Int32.toInt_inj.mp c3⟩, E2⟩
      obtain ⟨m2, z2, hm2, q2, E2⟩ := s2
      have s3 : ∃ m3 z3, m3 < n ∧ (¬ z3.toInt = 0 → ¬ z2.toInt = 0 ∧ (bt (gi h 324 (32 * tn + i)) 1 = true → gi h 325 (3 * (32 * tn + i) + 1) = b)) ∧ rk_ex m3 d rm_X8_find 134 [(0, .ref 316), (1, .int r), (2, .int a), (3, .int b), (4, .int c), (5, .int y), (6, .int z3)] [] h = some o := by
        have B := ym_fd3 hG E2
        rw [ey, y_ix k1] at B
        rcases B with ⟨-, m2, hm2, -, E2⟩ | ⟨c1, c2, m2, hm2, -, E2⟩ | ⟨-, -, -, m2, hm2, -, E2⟩ | ⟨c1, c2, c3, m2, hm2, -, E2⟩
        · exact ⟨m2, _, by omega, fun w => absurd rfl w, E2⟩
        · exact ⟨m2, _, by omega, fun _ => ⟨c1, fun w => by rw [y_b2 c2] at w; cases w⟩, E2⟩
        · exact ⟨m2, _, by omega, fun w => absurd rfl w, E2⟩
        · exact ⟨m2, _, by omega, fun _ => ⟨c1, fun _ => Int32.toInt_inj.mp c3⟩, E2⟩
      obtain ⟨m3, z3, hm3, q3, E3⟩ := s3
      have s4 : ∃ m4 z4, m4 < n ∧ (¬ z4.toInt = 0 → ¬ z3.toInt = 0 ∧ (bt (gi h 324 (32 * tn + i)) 2 = true → gi h 325 (3 * (32 * tn + i) + 2) = c)) ∧ rk_ex m4 d rm_X8_find 174 [(0, .ref 316), (1, .int r), (2, .int a), (3, .int b), (4, .int c), (5, .int y), (6, .int z4)] [] h = some o := by
        have B := ym_fd4 hG E3
        rw [ey, y_ix k2] at B
        rcases B with ⟨-, m2, hm2, -, E2⟩ | ⟨c1, c2, m2, hm2, -, E2⟩ | ⟨-, -, -, m2, hm2, -, E2⟩ | ⟨c1, c2, c3, m2, hm2, -, E2⟩
        · exact ⟨m2, _, by omega, fun w => absurd rfl w, E2⟩
        · exact ⟨m2, _, by omega, fun _ => ⟨c1, fun w => by rw [y_b4 c2] at w; cases w⟩, E2⟩
        · exact ⟨m2, _, by omega, fun w => absurd rfl w, E2⟩
        · exact ⟨m2, _, by omega, fun _ => ⟨c1, fun _ => Int32.toInt_inj.mp c3⟩, E2⟩
      obtain ⟨m4, z4, hm4, q4, E4⟩ := s4
      refine end5 m4 z4 hm4 hic (fun w => ?_) E4
      obtain ⟨w3, v2⟩ := q4 w
      obtain ⟨w2, v1⟩ := q3 w3
      obtain ⟨w1, v0⟩ := q2 w2
      obtain ⟨u1, u2⟩ := hz w1
      refine ⟨u1, fun k hk hb => ?_, u2⟩
      have hk : k = 0 ∨ k = 1 ∨ k = 2 := by omega
      rcases hk with rfl | rfl | rfl
      · exact v0 hb
      · exact v1 hb
      · exact v2 hb
    rcases A with ⟨-, -, rfl⟩ | ⟨c1, c2, m, hm, -, E1⟩ | ⟨c1, c2, m, hm, -, E1⟩
    · exact ⟨_, rfl, fun w => absurd (by decide) w⟩
    · exact mid m _ (by omega) (by omega) (fun w => absurd rfl w) E1
    · obtain ⟨m1, d1, o1, hm1, E2, E3⟩ := E_call (ar := ([.ref 316, .int y], [])) rfl rfl rfl rfl rfl rfl E1
      obtain ⟨m2, hm2, -, E4⟩ := ym_as0 hG E2
      obtain ⟨w, rfl, hw⟩ := as_loop hG ht htn hy (by omega) m2 d1 o1 1 0 0 rfl (by omega) (fun _ k hk => by omega) E4
      rcases ym_fd1 hG E3 with ⟨-, m3, hm3, -, E5⟩ | ⟨c3, m3, hm3, -, E5⟩
      · exact mid m3 _ (by omega) (by omega) (fun w => absurd rfl w) E5
      · exact mid m3 _ (by omega) (by omega) (fun _ => ⟨c2, hw c3⟩) E5
theorem fd_ok {h : rk_S} {r a b c : Int32} {cn n d : Nat} {o : Option Value × rk_S} (hG : yG h) (ht : (gi h 316 21).toInt = tn) (htn : tn < 2) (hcn : (gi h 322 tn).toInt = cn) (hc32 : cn ≤ 32) (E : rk_ex n d rm_X8_find 0 [(0, .ref 316), (1, .int r), (2, .int a), (3, .int b), (4, .int c)] [] h = some o) : ∃ w, o = (some (.int w), h) ∧ (¬ w.toInt < 0 → ∃ j, j < cn ∧ w.toInt = ((32 * tn + j : Nat) : Int) ∧ holdsM h tn (32 * tn + j) r.toInt (e3 a b c)) := by
  obtain ⟨m, hm, -, E1⟩ := ym_fd0 hG E
  exact fd_loop hG ht htn hcn hc32 m d o _ _ 0 (by rw [y_mulc (cn := 32) rfl ht (by omega)]; omega) (by omega) E1
/-- the kept one y is now what x was -/
def cpP (h h' : rk_S) (x y : Nat) : Prop := (∀ b, 323 ≤ b → b ≤ 331 → b ≠ 325 → b ≠ 327 → gi h' b y = gi h b x) ∧ (∀ i, i < 3 → gi h' 325 (3 * y + i) = gi h 325 (3 * x + i)) ∧ (∀ s, s < 16 → gi h' 327 (16 * y + s) = gi h 327 (16 * x + s)) ∧ ∀ b k, ¬ (((323 ≤ b ∧ b ≤ 333) ∧ b ≠ 325 ∧ b ≠ 327) ∧ k = y) → ¬ (b = 325 ∧ 3 * y ≤ k ∧ k < 3 * y + 3) → ¬ (b = 327 ∧ 16 * y ≤ k ∧ k < 16 * y + 16) → rk_get h' b k = rk_get h b k
theorem cp1_loop {x y : Int32} {xn yn : Nat} (hx : x.toInt = xn) (hy : y.toInt = yn) (hxn : xn < 64) (hyn : yn < 64) (hne : xn ≠ yn) {h0 : rk_S} : ∀ (n d : Nat) (h : rk_S) (o : Option Value × rk_S) (j : Int32) (jn : Nat), yG h → j.toInt = jn → jn ≤ 16 → (∀ b k, ¬ (b = 327 ∧ 16 * yn ≤ k ∧ k < 16 * yn + 16) → rk_get h b k = rk_get h0 b k) → (∀ s, s < jn → gi h 327 (16 * yn + s) = gi h0 327 (16 * xn + s)) → rk_ex n d rm_X8_copy 143 [(0, .ref 316), (1, .int x), (2, .int y), (3, .int j)] [] h = some o → ∃ h', o = (none, h') ∧ yG h' ∧ (∀ b k, ¬ (b = 327 ∧ 16 * yn ≤ k ∧ k < 16 * yn + 16) → rk_get h' b k = rk_get h0 b k) ∧ (∀ s, s < 16 → gi h' 327 (16 * yn + s) = gi h0 327 (16 * xn + s)) := by
  intro n
  induction n using Nat.strongRecOn with
  | ind n ih =>
    intro d h o j jn hG hj hjn hfr hp E
    have hj1 := y_inc hj (by omega)
    have A := ym_cp1 hG E
    rw [y_ix (y_16 (c := 16) (cn := 16) rfl hx hj (by omega)), y_ix (y_16 (c := 16) (cn := 16) rfl hy hj (by omega))] at A
    rcases A with ⟨c1, -, rfl⟩ | ⟨c1, m, hm, hG', E'⟩
    · exact ⟨h, rfl, hG, hfr, fun s hs => hp s (by omega)⟩
    · refine ih m hm d _ o _ (jn + 1) hG' hj1 (by omega) (fun b k hb => (rk_get_ne (by omega)).trans (hfr b k hb)) (fun s hs => ?_) E'
      by_cases e : s = jn
      · subst e
        rw [gi_s (hG.yE (by decide) (by decide) (by rw [yln_m.2.2.2.2.2.2.2.2.2.2.2.1]; omega)), gi_eq (hfr 327 (16 * xn + s) (by omega))]
      · rw [gi_y (by omega)]
        exact hp s (by omega)
theorem cp_loop {x y : Int32} {xn yn : Nat} (hx : x.toInt = xn) (hy : y.toInt = yn) (hxn : xn < 64) (hyn : yn < 64) (hne : xn ≠ yn) {h0 : rk_S} : ∀ (n d : Nat) (h : rk_S) (o : Option Value × rk_S) (j : Int32) (jn : Nat), yG h → j.toInt = jn → jn ≤ 3 → (∀ b k, ¬ (b = 325 ∧ 3 * yn ≤ k ∧ k < 3 * yn + 3) → rk_get h b k = rk_get h0 b k) → (∀ s, s < jn → gi h 325 (3 * yn + s) = gi h0 325 (3 * xn + s)) → rk_ex n d rm_X8_copy 110 [(0, .ref 316), (1, .int x), (2, .int y), (3, .int j)] [] h = some o → ∃ h', o = (none, h') ∧ yG h' ∧ (∀ b k, ¬ (b = 325 ∧ 3 * yn ≤ k ∧ k < 3 * yn + 3) → ¬ (b = 327 ∧ 16 * yn ≤ k ∧ k < 16 * yn + 16) → rk_get h' b k = rk_get h0 b k) ∧ (∀ s, s < 3 → gi h' 325 (3 * yn + s) = gi h0 325 (3 * xn + s)) ∧ (∀ s, s < 16 → gi h' 327 (16 * yn + s) = gi h0 327 (16 * xn + s)) := by
  intro n
  induction n using Nat.strongRecOn with
  | ind n ih =>
    intro d h o j jn hG hj hjn hfr hp E
    have hj1 := y_inc hj (by omega)
    have A := ym_cp hG E
    rw [y_ix (y_16 (c := 3) (cn := 3) rfl hx hj (by omega)), y_ix (y_16 (c := 3) (cn := 3) rfl hy hj (by omega))] at A
    rcases A with ⟨c1, m, hm, -, E'⟩ | ⟨c1, m, hm, hG', E'⟩
    · obtain ⟨h', rfl, g1, g2, g3⟩ := cp1_loop hx hy hxn hyn hne (h0 := h) m d h o 0 0 hG rfl (by omega) (fun _ _ _ => rfl) (fun s hs => by omega) E'
      refine ⟨h', rfl, g1, fun b k z1 z2 => (g2 b k z2).trans (hfr b k z1), fun s hs => ?_, fun s hs => ?_⟩
      · rw [gi_eq (g2 325 _ (by omega))]
        exact hp s (by omega)
      · rw [g3 s hs, gi_eq (hfr 327 _ (by omega))]
    · refine ih m hm d _ o _ (jn + 1) hG' hj1 (by omega) (fun b k hb => (rk_get_ne (by omega)).trans (hfr b k hb)) (fun s hs => ?_) E'
      by_cases e : s = jn
      · subst e
        rw [gi_s (hG.yE (by decide) (by decide) (by rw [yln_m.2.2.2.2.2.2.2.2.2.1]; omega)), gi_eq (hfr 325 (3 * xn + s) (by omega))]
      · rw [gi_y (by omega)]
        exact hp s (by omega)
theorem cp_ok {x y : Int32} {xn yn n d : Nat} {h : rk_S} {o : Option Value × rk_S} (hG : yG h) (hx : x.toInt = xn) (hy : y.toInt = yn) (hxn : xn < 64) (hyn : yn < 64) (hne : xn ≠ yn) (E : rk_ex n d rm_X8_copy 0 [(0, .ref 316), (1, .int x), (2, .int y)] [] h = some o) : ∃ h', o = (none, h') ∧ yG h' ∧ cpP h h' xn yn := by
  obtain ⟨m, hm, hG1, E1⟩ := ym_cp0 hG E
  rw [y_ix hx, y_ix hy] at hG1 E1
  obtain ⟨H, hH⟩ : ∃ H, H = rk_pt (rk_pt (rk_pt (rk_pt (rk_pt (rk_pt (rk_pt (rk_pt (rk_pt h 323 yn (.int (gi h 323 xn))) 324 yn (.int (gi h 324 xn))) 326 yn (.int (gi h 326 xn))) 328 yn (.int (gi h 328 xn))) 329 yn (.int (gi h 329 xn))) 330 yn (.int (gi h 330 xn))) 331 yn (.int (gi h 331 xn))) 332 yn (.int (gi h 332 xn))) 333 yn (.int (gi h 333 xn)) := ⟨_, rfl⟩
  rw [← hH] at hG1 E1
  have yk : ∀ b, 323 ≤ b → b ≤ 331 → b ≠ 325 → b ≠ 327 → yE b yn h := fun b z1 z2 z3 z4 => hG.yE (by omega) (by omega) (by
    have hb : b = 323 ∨ b = 324 ∨ b = 326 ∨ b = 328 ∨ b = 329 ∨ b = 330 ∨ b = 331 := by omega
    obtain ⟨-, -, -, -, -, -, -, l323, l324, -, l326, -, l328, l329, l330, l331, -⟩ := yln_m
    rcases hb with rfl | rfl | rfl | rfl | rfl | rfl | rfl
    · rw [l323]; exact hyn
    · rw [l324]; exact hyn
    · rw [l326]; exact hyn
    · rw [l328]; exact hyn
    · rw [l329]; exact hyn
    · rw [l330]; exact hyn
    · rw [l331]; exact hyn)
  have a1 : ∀ b, 323 ≤ b → b ≤ 331 → b ≠ 325 → b ≠ 327 → gi H b yn = gi h b xn := fun b z1 z2 z3 z4 => by
    have hb : b = 323 ∨ b = 324 ∨ b = 326 ∨ b = 328 ∨ b = 329 ∨ b = 330 ∨ b = 331 := by omega
    have hy' := yk b z1 z2 z3 z4
    rw [hH]
    rcases hb with rfl | rfl | rfl | rfl | rfl | rfl | rfl
    · rw [gi_x (by decide), gi_x (by decide), gi_x (by decide), gi_x (by decide), gi_x (by decide), gi_x (by decide), gi_x (by decide), gi_x (by decide), gi_s hy']
    · rw [gi_x (by decide), gi_x (by decide), gi_x (by decide), gi_x (by decide), gi_x (by decide), gi_x (by decide), gi_x (by decide), gi_s (yE_pt.mpr hy')]
    · rw [gi_x (by decide), gi_x (by decide), gi_x (by decide), gi_x (by decide), gi_x (by decide), gi_x (by decide), gi_s (yE_pt.mpr (yE_pt.mpr hy'))]
    · rw [gi_x (by decide), gi_x (by decide), gi_x (by decide), gi_x (by decide), gi_x (by decide), gi_s (yE_pt.mpr (yE_pt.mpr (yE_pt.mpr hy')))]
    · rw [gi_x (by decide), gi_x (by decide), gi_x (by decide), gi_x (by decide), gi_s (yE_pt.mpr (yE_pt.mpr (yE_pt.mpr (yE_pt.mpr hy'))))]
    · rw [gi_x (by decide), gi_x (by decide), gi_x (by decide), gi_s (yE_pt.mpr (yE_pt.mpr (yE_pt.mpr (yE_pt.mpr (yE_pt.mpr hy')))))]
    · rw [gi_x (by decide), gi_x (by decide), gi_s (yE_pt.mpr (yE_pt.mpr (yE_pt.mpr (yE_pt.mpr (yE_pt.mpr (yE_pt.mpr hy'))))))]
  have f1 : ∀ b k, ¬ (((323 ≤ b ∧ b ≤ 333) ∧ b ≠ 325 ∧ b ≠ 327) ∧ k = yn) → rk_get H b k = rk_get h b k := fun b k z => by
    rw [hH, rk_get_ne (by omega), rk_get_ne (by omega), rk_get_ne (by omega), rk_get_ne (by omega), rk_get_ne (by omega), rk_get_ne (by omega), rk_get_ne (by omega), rk_get_ne (by omega), rk_get_ne (by omega)]
  obtain ⟨h', rfl, g1, g2, g3, g4⟩ := cp_loop hx hy hxn hyn hne (h0 := H) m d H o 0 0 hG1 rfl (by omega) (fun _ _ _ => rfl) (fun s hs => by omega) E1
  refine ⟨h', rfl, g1, fun b z1 z2 z3 z4 => ?_, fun i hi => ?_, fun s hs => ?_, fun b k z1 z2 z3 => (g2 b k z2 z3).trans (f1 b k z1)⟩
  · rw [gi_eq (g2 b yn (by omega) (by omega))]
    exact a1 b z1 z2 z3 z4
  · rw [g3 i hi, gi_eq (f1 325 _ (by omega))]
  · rw [g4 s hs, gi_eq (f1 327 _ (by omega))]
end RKMK
