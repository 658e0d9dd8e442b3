/-! the shelf: the next to go, filling, adding -/
theorem ng_loop {h : rk_S} (hG : yG h) : ∀ (n d : Nat) (o : Option Value × rk_S) (g j : Int32), rk_ex n d rm_X5_nextToGo 4 [(0, .ref 20), (1, .int g), (2, .int j)] [] h = some o → ∃ y, o = (some (.int y), h) := by
  intro n
  induction n using Nat.strongRecOn with
  | ind n ih =>
    intro d o g j E
    rcases ys_ng hG E with ⟨-, -, rfl⟩ | ⟨-, -, -, m, hm, -, E'⟩ | ⟨-, -, -, -, m, hm, -, E'⟩ | ⟨-, -, -, -, m, hm, -, E'⟩ | ⟨-, -, -, m, hm, -, E'⟩ | ⟨-, -, -, m, hm, -, E'⟩
    · exact ⟨_, rfl⟩
    · exact ih m hm d o _ _ E'
    · exact ih m hm d o _ _ E'
    · exact ih m hm d o _ _ E'
    · exact ih m hm d o _ _ E'
    · exact ih m hm d o _ _ E'
theorem ng_ok {n d : Nat} {h : rk_S} {o : Option Value × rk_S} (hG : yG h) (E : rk_ex n d rm_X5_nextToGo 0 [(0, .ref 20)] [] h = some o) : ∃ y, o = (some (.int y), h) := by
  obtain ⟨m, hm, -, E1⟩ := ys_ng0 hG E
  exact ng_loop hG m d o _ _ E1
theorem yE_k {h : rk_S} (hG : yG h) {c : Nat} (hc : isKs c) {k : Nat} (hk : k < 11) : yE c k h := hG.yE (by have := isKs_r hc; omega) (by have := isKs_r hc; omega) (by rw [(yln_ks hc).1]; exact hk)
theorem yE_k1 {h : rk_S} (hG : yG h) {c : Nat} (hc : isKs c) {k : Nat} (hk : k < 3) : yE (c + 1) k h := hG.yE (by omega) (by have := isKs_r hc; omega) (by rw [(yln_ks hc).2.1]; exact hk)
theorem yE_k2 {h : rk_S} (hG : yG h) {c : Nat} (hc : isKs c) {k : Nat} (hk : k < 16) : yE (c + 2) k h := hG.yE (by omega) (by have := isKs_r hc; omega) (by rw [(yln_ks hc).2.2]; exact hk)
theorem fl2_loop {c f : Nat} {r x s : Int32} (hc : isKs c) (hf : isFr f) {h0 : rk_S} : ∀ (n d : Nat) (h : rk_S) (o : Option Value × rk_S) (j : Int32) (jn : Nat), yG h → j.toInt = jn → jn ≤ 16 → (∀ b k, b ≠ c + 2 → rk_get h b k = rk_get h0 b k) → (∀ i, i < jn → bt (gi h0 c 4) i = true → gi h (c + 2) i = gi h0 19 i) → rk_ex n d rm_X1_fill 101 [(0, .ref c), (1, .int r), (2, .ref f), (3, .ref 18), (4, .int x), (5, .int s), (6, .int j)] [] h = some o → ∃ h', o = (none, h') ∧ yG h' ∧ (∀ b k, b ≠ c + 2 → rk_get h' b k = rk_get h0 b k) ∧ (∀ i, i < 16 → bt (gi h0 c 4) i = true → gi h' (c + 2) i = gi h0 19 i) := by
  have cr := isKs_r hc
  have fr := isFr_r hf
  intro n
  induction n using Nat.strongRecOn with
  | ind n ih =>
    intro d h o j jn hG hj hjn hfr hp E
    have ej := y_ix hj
    have hj1 := y_inc hj (by omega)
    have A := ys_fl2 hG fr.1 fr.2 cr.1 cr.2 (by omega) E
    rw [ej] at A
    rcases A with ⟨c1, -, rfl⟩ | ⟨c1, c2, m, hm, hG', E'⟩ | ⟨c1, c2, m, hm, hG', E'⟩
    · exact ⟨h, rfl, hG, hfr, fun i hi hb => hp i (by omega) hb⟩
    · refine ih m hm d _ o _ (jn + 1) hG' hj1 (by omega) (fun b k hb => (rk_get_ne (Or.inl (Ne.symm hb))).trans (hfr b k hb)) (fun i hi hb => ?_) E'
      by_cases e : i = jn
      · subst e
        have := (y_bit (by omega) (by omega)).mp c2
        rw [show j.toInt.toNat = i by omega, gi_eq (hfr c 4 (by omega)), hb] at this
        cases this
      · rw [gi_y (Ne.symm e)]
        exact hp i (by omega) hb
    · refine ih m hm d _ o _ (jn + 1) hG' hj1 (by omega) (fun b k hb => (rk_get_ne (Or.inl (Ne.symm hb))).trans (hfr b k hb)) (fun i hi hb => ?_) E'
      by_cases e : i = jn
      · subst e
        rw [gi_s (yE_k2 hG hc (by omega)), gi_eq (hfr 19 i (by omega))]
      · rw [gi_y (Ne.symm e)]
        exact hp i (by omega) hb
theorem fl1_loop {c f : Nat} {r x s : Int32} (hc : isKs c) (hf : isFr f) {h0 : rk_S} : ∀ (n d : Nat) (h : rk_S) (o : Option Value × rk_S) (j : Int32) (jn : Nat), yG h → j.toInt = jn → jn ≤ 3 → (∀ b k, b ≠ c + 1 → rk_get h b k = rk_get h0 b k) → (∀ i, i < jn → bt (gi h0 c 3) i = true → gi h (c + 1) i = gi h0 (f + 1) i) → rk_ex n d rm_X1_fill 57 [(0, .ref c), (1, .int r), (2, .ref f), (3, .ref 18), (4, .int x), (5, .int s), (6, .int j)] [] h = some o → ∃ h', o = (none, h') ∧ yG h' ∧ (∀ b k, b ≠ c + 1 → b ≠ c + 2 → rk_get h' b k = rk_get h0 b k) ∧ (∀ i, i < 3 → bt (gi h0 c 3) i = true → gi h' (c + 1) i = gi h0 (f + 1) i) ∧ (∀ i, i < 16 → bt (gi h0 c 4) i = true → gi h' (c + 2) i = gi h0 19 i) := by
  have cr := isKs_r hc
  have fr := isFr_r hf
  intro n
  induction n using Nat.strongRecOn with
  | ind n ih =>
    intro d h o j jn hG hj hjn hfr hp E
    have ej := y_ix hj
    have hj1 := y_inc hj (by omega)
    have A := ys_fl1 hG fr.1 fr.2 cr.1 cr.2 (by omega) E
    rw [ej] at A
    rcases A with ⟨c1, m, hm, -, E'⟩ | ⟨c1, c2, m, hm, hG', E'⟩ | ⟨c1, c2, m, hm, hG', E'⟩
    · obtain ⟨h', rfl, g1, g2, g3⟩ := fl2_loop (h0 := h) hc hf m d h o 0 0 hG rfl (by omega) (fun _ _ _ => rfl) (fun i hi => by omega) E'
      refine ⟨h', rfl, g1, fun b k z1 z2 => (g2 b k z2).trans (hfr b k z1), fun i hi hb => ?_, fun i hi hb => ?_⟩
      · rw [gi_eq (g2 (c + 1) i (by omega))]
        exact hp i (by omega) hb
      · rw [g3 i hi (by rw [gi_eq (hfr c 4 (by omega))]; exact hb), gi_eq (hfr 19 i (by omega))]
    · refine ih m hm d _ o _ (jn + 1) hG' hj1 (by omega) (fun b k hb => (rk_get_ne (Or.inl (Ne.symm hb))).trans (hfr b k hb)) (fun i hi hb => ?_) E'
      by_cases e : i = jn
      · subst e
        have := (y_bit (by omega) (by omega)).mp c2
        rw [show j.toInt.toNat = i by omega, gi_eq (hfr c 3 (by omega)), hb] at this
        cases this
      · rw [gi_y (Ne.symm e)]
        exact hp i (by omega) hb
    · refine ih m hm d _ o _ (jn + 1) hG' hj1 (by omega) (fun b k hb => (rk_get_ne (Or.inl (Ne.symm hb))).trans (hfr b k hb)) (fun i hi hb => ?_) E'
      by_cases e : i = jn
      · subst e
        rw [gi_s (yE_k1 hG hc (by omega)), gi_eq (hfr (f + 1) i (by omega))]
      · rw [gi_y (Ne.symm e)]
        exact hp i (by omega) hb
/-- what filling leaves: the kept one c says what the frame f says -/
def flP (h h' : rk_S) (c f : Nat) (r x s : Int32) : Prop := gi h' c 2 = r ∧ gi h' c 3 = gi h f 3 ∧ gi h' c 4 = gi h f 4 ∧ gi h' c 5 = gi h f 6 ∧ gi h' c 6 = x ∧ gi h' c 7 = s ∧ gi h' c 8 = gi h f 5 ∧ (∀ i, i < 3 → bt (gi h f 3) i = true → gi h' (c + 1) i = gi h (f + 1) i) ∧ (∀ i, i < 16 → bt (gi h f 4) i = true → gi h' (c + 2) i = gi h 19 i)
theorem fill_ok {n d : Nat} {h : rk_S} {o : Option Value × rk_S} {c f : Nat} {r x s : Int32} (hG : yG h) (hc : isKs c) (hf : isFr f) (E : rk_ex n d rm_X1_fill 0 [(0, .ref c), (1, .int r), (2, .ref f), (3, .ref 18), (4, .int x), (5, .int s)] [] h = some o) : ∃ h', o = (none, h') ∧ yG h' ∧ (∀ b k, b ≠ c → b ≠ c + 1 → b ≠ c + 2 → rk_get h' b k = rk_get h b k) ∧ flP h h' c f r x s := by
  have cr := isKs_r hc
  have fr := isFr_r hf
  obtain ⟨m, hm, hG1, E1⟩ := ys_fl0 hG fr.1 fr.2 cr.1 cr.2 E
  have y2 := yE_k hG hc (k := 2) (by decide)
  have y3 := yE_k hG hc (k := 3) (by decide)
  have y4 := yE_k hG hc (k := 4) (by decide)
  have y5 := yE_k hG hc (k := 5) (by decide)
  have y6 := yE_k hG hc (k := 6) (by decide)
  have y7 := yE_k hG hc (k := 7) (by decide)
  have y8 := yE_k hG hc (k := 8) (by decide)
  obtain ⟨H, hH⟩ : ∃ H, H = rk_pt (rk_pt (rk_pt (rk_pt (rk_pt (rk_pt (rk_pt (rk_pt h c 2 (.int r)) c 3 (.int (gi h f 3))) c 4 (.int (gi h f 4))) c 5 (.int (gi h f 6))) c 6 (.int x)) c 7 (.int s)) c 8 (.int (gi h f 5))) c 9 (.int (0 : Int32)) := ⟨_, rfl⟩
  rw [← hH] at hG1 E1
  have a2 : gi H c 2 = r := by rw [hH, gi_y (by decide), gi_y (by decide), gi_y (by decide), gi_y (by decide), gi_y (by decide), gi_y (by decide), gi_y (by decide), gi_s y2]
  have a3 : gi H c 3 = gi h f 3 := by rw [hH, gi_y (by decide), gi_y (by decide), gi_y (by decide), gi_y (by decide), gi_y (by decide), gi_y (by decide), gi_s (yE_pt.mpr y3)]
  have a4 : gi H c 4 = gi h f 4 := by rw [hH, gi_y (by decide), gi_y (by decide), gi_y (by decide), gi_y (by decide), gi_y (by decide), gi_s (yE_pt.mpr (yE_pt.mpr y4))]
  have a5 : gi H c 5 = gi h f 6 := by rw [hH, gi_y (by decide), gi_y (by decide), gi_y (by decide), gi_y (by decide), gi_s (yE_pt.mpr (yE_pt.mpr (yE_pt.mpr y5)))]
  have a6 : gi H c 6 = x := by rw [hH, gi_y (by decide), gi_y (by decide), gi_y (by decide), gi_s (yE_pt.mpr (yE_pt.mpr (yE_pt.mpr (yE_pt.mpr y6))))]
  have a7 : gi H c 7 = s := by rw [hH, gi_y (by decide), gi_y (by decide), gi_s (yE_pt.mpr (yE_pt.mpr (yE_pt.mpr (yE_pt.mpr (yE_pt.mpr y7)))))]
  have a8 : gi H c 8 = gi h f 5 := by rw [hH, gi_y (by decide), gi_s (yE_pt.mpr (yE_pt.mpr (yE_pt.mpr (yE_pt.mpr (yE_pt.mpr (yE_pt.mpr y8))))))]
  have fr1 : ∀ b k, b ≠ c → rk_get H b k = rk_get h b k := fun b k hb => by
    rw [hH, rk_get_ne (Or.inl (Ne.symm hb)), rk_get_ne (Or.inl (Ne.symm hb)), rk_get_ne (Or.inl (Ne.symm hb)), rk_get_ne (Or.inl (Ne.symm hb)), rk_get_ne (Or.inl (Ne.symm hb)), rk_get_ne (Or.inl (Ne.symm hb)), rk_get_ne (Or.inl (Ne.symm hb)), rk_get_ne (Or.inl (Ne.symm hb))]
  obtain ⟨h', rfl, g1, g2, g3, g4⟩ := fl1_loop (h0 := H) hc hf m d H o 0 0 hG1 rfl (by omega) (fun _ _ _ => rfl) (fun i hi => by omega) E1
  have gc : ∀ k, gi h' c k = gi H c k := fun k => gi_eq (g2 c k (by omega) (by omega))
  refine ⟨h', rfl, g1, fun b k z1 z2 z3 => (g2 b k z2 z3).trans (fr1 b k z1), (gc 2).trans a2, (gc 3).trans a3, (gc 4).trans a4, (gc 5).trans a5, (gc 6).trans a6, (gc 7).trans a7, (gc 8).trans a8, fun i hi hb => ?_, fun i hi hb => ?_⟩
  · rw [g3 i hi (by rw [a3]; exact hb), gi_eq (fr1 (f + 1) i (by omega))]
  · rw [g4 i hi (by rw [a4]; exact hb), gi_eq (fr1 19 i (by omega))]
theorem ad1_ok {N : Nat} {ln : Nat → Nat} {cd : Nat → Nat → Int} {n d : Nat} {h : rk_S} {o : Option Value × rk_S} {f : Nat} {r x s : Int32} (hG : yG h) (hS : SV N ln cd h) (hf : isFr f) (hnew : ∀ h1 h' c, isKs c → (∀ b k, (b < 20 ∨ 118 ≤ b) → rk_get h1 b k = rk_get h b k) → flP h1 h' c f r x s → KV N ln cd h' c) (E : rk_ex n d rm_X5_add 27 [(0, .ref 20), (1, .int r), (2, .ref f), (3, .ref 18), (4, .int x), (5, .int s)] [] h = some o) : ∃ h', o = (none, h') ∧ yG h' ∧ SV N ln cd h' ∧ (∀ b k, (b < 20 ∨ 118 ≤ b) → rk_get h' b k = rk_get h b k) := by
  have fr := isFr_r hf
  obtain ⟨⟨cn, s1, s2, s3⟩, s4, s5⟩ := id hS
  rcases ys_ad1 hG E with ⟨-, -, rfl⟩ | ⟨c1, c2, m, hm, hG1, E1⟩ | ⟨-, -, -, rfl⟩
  · exact ⟨h, rfl, hG, hS, fun _ _ _ => rfl⟩
  · rw [y_ix s1] at E1
    obtain ⟨c, hcq⟩ : ∃ c, c = gr h 21 cn := ⟨_, rfl⟩
    rw [← hcq] at E1
    have hc : isKs c := hcq ▸ s4 cn (by omega)
    have cr := isKs_r hc
    have e1 : gi (rk_pt h 20 1 (.int ((gi h 20 1) + (1 : Int32)))) 20 1 = (gi h 20 1) + (1 : Int32) := gi_s (hG.yE (by decide) (by decide) (by rw [yln_sh.1]; decide))
    have f1 : ∀ b k, ¬ (b = 20 ∧ k = 1) → rk_get (rk_pt h 20 1 (.int ((gi h 20 1) + (1 : Int32)))) b k = rk_get h b k := fun b k hb => rk_get_ne (by omega)
    generalize rk_pt h 20 1 (.int ((gi h 20 1) + (1 : Int32))) = H at *
    obtain ⟨m1, d1, o1, hm1, E2, E3⟩ := E_call (ar := ([.ref c, .int r, .ref f, .ref 18, .int x, .int s], [])) rfl rfl rfl rfl rfl rfl E1
    obtain ⟨h2, rfl, g1, g2, g3⟩ := fill_ok hG1 hc hf E2
    obtain ⟨hG3, rfl⟩ := ys_ad2 (k := c) g1 cr.1 cr.2 (g1.yE (by decide) (by decide) (by rw [yln_sh.1]; decide)) E3
    have f3 : ∀ b k, ¬ (b = 20 ∧ k = 4) → ¬ (b = c ∧ k = 10) → rk_get (rk_pt (rk_pt h2 20 4 (.int ((gi h2 20 4) + (1 : Int32)))) c 10 (.int ((gi h2 20 4) + (1 : Int32)))) b k = rk_get h2 b k := fun b k z1 z2 => (rk_get_ne (by omega)).trans (rk_get_ne (by omega))
    have hK : KV N ln cd h2 c := hnew H h2 c hc (fun b k hb => f1 b k (by omega)) g3
    refine ⟨_, rfl, hG3, ?_, fun b k hb => (f3 b k (by omega) (by omega)).trans ((g2 b k (by omega) (by omega) (by omega)).trans (f1 b k (by omega)))⟩
    have row : ∀ i, gr (rk_pt (rk_pt h2 20 4 (.int ((gi h2 20 4) + (1 : Int32)))) c 10 (.int ((gi h2 20 4) + (1 : Int32)))) 21 i = gr h 21 i := fun i => gr_eq ((f3 21 i (by omega) (by omega)).trans ((g2 21 i (by omega) (by omega) (by omega)).trans (f1 21 i (by omega))))
    refine ⟨⟨cn + 1, ?_, by omega, fun i hi => ?_⟩, fun i hi => by rw [row]; exact s4 i hi, fun i j hi hj e => s5 i j hi hj (by rw [row, row] at e; exact e)⟩
    · rw [gi_eq (f3 20 1 (by omega) (by omega)), gi_eq (g2 20 1 (by omega) (by omega) (by omega)), e1, y_inc s1 (by omega)]
    · rw [row]
      by_cases e : i = cn
      · subst e
        rw [← hcq]
        refine KV_eq (fun b k hb => f3 b k (by omega) (fun z => ?_)) hK
        obtain ⟨rfl, rfl⟩ := z
        omega
      · have hk := s4 i (by omega)
        have hr := isKs_r hk
        have hne : gr h 21 i ≠ c := fun z => e (s5 i cn (by omega) (by omega) (z.trans hcq))
        have hd := isKs_ne hk hc
        refine KV_eq (fun b k hb => (f3 b k (by omega) (by omega)).trans ((g2 b k (by omega) (by omega) (by omega)).trans (f1 b k (by omega)))) (s3 i (by omega))
  · exact ⟨h, rfl, hG, hS, fun _ _ _ => rfl⟩
theorem add_ok {N : Nat} {ln : Nat → Nat} {cd : Nat → Nat → Int} {n d : Nat} {h : rk_S} {o : Option Value × rk_S} {f : Nat} {r x s : Int32} (hG : yG h) (hS : SV N ln cd h) (hf : isFr f) (hnew : ∀ h1 h' c, isKs c → (∀ b k, (b < 20 ∨ 118 ≤ b) → rk_get h1 b k = rk_get h b k) → flP h1 h' c f r x s → KV N ln cd h' c) (E : rk_ex n d rm_X5_add 0 [(0, .ref 20), (1, .int r), (2, .ref f), (3, .ref 18), (4, .int x), (5, .int s)] [] h = some o) : ∃ h', o = (none, h') ∧ yG h' ∧ SV N ln cd h' ∧ (∀ b k, (b < 20 ∨ 118 ≤ b) → rk_get h' b k = rk_get h b k) := by
  rcases ys_ad hG E with ⟨-, -, m, hm, -, E1⟩ | ⟨-, -, m, hm, -, E1⟩ | ⟨-, -, rfl⟩
  · exact ad1_ok hG hS hf hnew E1
  · obtain ⟨m1, d1, o1, hm1, E2, E3⟩ := E_call (ar := ([.ref 20], [.ref 20])) rfl rfl rfl rfl rfl rfl E1
    obtain ⟨y, rfl⟩ := ng_ok hG E2
    obtain ⟨m2, d2, o2, hm2, E4, E5⟩ := E_call (ar := ([.ref 20, .int y], [])) rfl rfl rfl rfl rfl rfl E3
    obtain ⟨h1, rfl, g1, g2, g3⟩ := drop_ok hG hS E4
    have f1 : ∀ b k, (b < 20 ∨ 118 ≤ b) → rk_get h1 b k = rk_get h b k := fun b k hb => g3 b k (by omega) (by omega)
    obtain ⟨h', rfl, q1, q2, q3⟩ := ad1_ok g1 g2 hf (fun h2 h' c hc hh hp => hnew h2 h' c hc (fun b k hb => (hh b k hb).trans (f1 b k hb)) hp) E5
    exact ⟨h', rfl, q1, q2, fun b k hb => (q3 b k hb).trans (f1 b k hb)⟩
  · exact ⟨h, rfl, hG, hS, fun _ _ _ => rfl⟩
