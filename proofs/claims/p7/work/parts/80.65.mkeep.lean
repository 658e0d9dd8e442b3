/-! the reference: letting go, keeping -/
/-- only kept ones of table tn change -/
def mkf (tn : Nat) (h h' : rk_S) : Prop := ∀ b k, ¬ (mtb tn b k ∧ 322 ≤ b) → rk_get h' b k = rk_get h b k
theorem mkf_trans {tn : Nat} {h h1 h2 : rk_S} (a : mkf tn h h1) (b : mkf tn h1 h2) : mkf tn h h2 := fun c k z => (b c k z).trans (a c k z)
section RKML
variable {N : Nat} {ln : Nat → Nat} {cd : Nat → Nat → Int} {tn : Nat}
theorem lg_loop {cn : Nat} (htn : tn < 2) (hc1 : 1 ≤ cn) (hc : cn ≤ 32) {y : Int32} {h0 : rk_S} : ∀ (n d : Nat) (h : rk_S) (o : Option Value × rk_S) (j : Int32) (jn : Nat), yG h → (gi h 316 21).toInt = tn → (gi h 322 tn).toInt = ((cn - 1 : Nat) : Int) → j.toInt = ((32 * tn + jn : Nat) : Int) → jn ≤ 32 → (∀ i, i < cn → KM N ln cd h (32 * tn + i)) → mkf tn h0 h → rk_ex n d rm_X8_letGo 15 [(0, .ref 316), (1, .int y), (2, .int j)] [] h = some o → ∃ h', o = (none, h') ∧ yG h' ∧ VM N ln cd tn h' ∧ (gi h' 322 tn).toInt = ((cn - 1 : Nat) : Int) ∧ mkf tn h0 h' := by
  intro n
  induction n using Nat.strongRecOn with
  | ind n ih =>
    intro d h o j jn hG ht hcm hj hjn hK hfr E
    have A := ym_lg hG E
    rw [y_ix ht, y_16 (c := 32) (cn := 32) rfl ht hcm (by omega)] at A
    rcases A with ⟨c1, -, rfl⟩ | ⟨c1, m, hm, -, E1⟩
    · exact ⟨h, rfl, hG, ⟨cn - 1, hcm, by omega, fun i hi => hK i (by omega)⟩, hcm, hfr⟩
    · obtain ⟨m1, d1, o1, hm1, E2, E3⟩ := E_call (ar := ([.ref 316, .int (j + (1 : Int32)), .int j], [])) rfl rfl rfl rfl rfl rfl E1
      have hj1 : (j + (1 : Int32)).toInt = ((32 * tn + (jn + 1) : Nat) : Int) := by
        rw [y_inc hj (by omega)]
        omega
      obtain ⟨h1, rfl, g1, g2, g3, g4, g5⟩ := cp_ok hG hj1 hj (by omega) (by omega) (by omega) E2
      obtain ⟨m2, hm2, -, E4⟩ := ym_lg1 g1 E3
      refine ih m2 (by omega) d h1 o _ (jn + 1) g1 ?_ ?_ hj1 (by omega) (fun i hi => ?_) (fun b k hb => (g5 b k ?_ ?_ ?_).trans (hfr b k hb)) E4
      · rw [gi_eq (g5 316 21 (by omega) (by omega) (by omega))]; exact ht
      · rw [gi_eq (g5 322 tn (by omega) (by omega) (by omega))]; exact hcm
      · by_cases e : i = jn
        · subst e
          exact KM_mv g2 g3 g4 (hK (i + 1) (by omega))
        · exact KM_mv (fun b z1 z2 z3 z4 => gi_eq (g5 _ _ (by omega) (by omega) (by omega))) (fun k hk => gi_eq (g5 _ _ (by omega) (by omega) (by omega))) (fun s hs => gi_eq (g5 _ _ (by omega) (by omega) (by omega))) (hK i hi)
      · unfold mtb at hb; omega
      · unfold mtb at hb; omega
      · unfold mtb at hb; omega
theorem lg_ok {n d p cn : Nat} {h : rk_S} {o : Option Value × rk_S} {y : Int32} (hG : yG h) (ht : (gi h 316 21).toInt = tn) (htn : tn < 2) (hV : VM N ln cd tn h) (hcn : (gi h 322 tn).toInt = cn) (hc1 : 1 ≤ cn) (hy : y.toInt = ((32 * tn + p : Nat) : Int)) (hp : p ≤ 32) (E : rk_ex n d rm_X8_letGo 0 [(0, .ref 316), (1, .int y)] [] h = some o) : ∃ h', o = (none, h') ∧ yG h' ∧ VM N ln cd tn h' ∧ (gi h' 322 tn).toInt = ((cn - 1 : Nat) : Int) ∧ mkf tn h h' := by
  obtain ⟨c0, v1, v2, v3⟩ := hV
  have hcc : c0 = cn := by omega
  subst hcc
  obtain ⟨m, hm, hG1, E1⟩ := ym_lg0 hG E
  rw [y_ix ht] at hG1 E1
  have y2 : yE 322 tn h := hG.yE (by decide) (by decide) (by rw [yln_m.2.2.2.2.2.2.1]; exact htn)
  have f1 : ∀ b k, ¬ (b = 322 ∧ k = tn) → rk_get (rk_pt h 322 tn (.int ((gi h 322 tn) - (1 : Int32)))) b k = rk_get h b k := fun b k z => rk_get_ne (by omega)
  have e1 : (gi (rk_pt h 322 tn (.int ((gi h 322 tn) - (1 : Int32)))) 322 tn).toInt = ((c0 - 1 : Nat) : Int) := by
    rw [gi_s y2, y_subc hcn (j := 1) rfl hc1 (by omega)]
  generalize rk_pt h 322 tn (.int ((gi h 322 tn) - (1 : Int32))) = H at *
  exact lg_loop (h0 := h) htn hc1 v2 m d H o y p hG1 (by rw [gi_eq (f1 _ _ (by omega))]; exact ht) e1 hy hp (fun i hi => KM_mv (fun b z1 z2 z3 z4 => gi_eq (f1 _ _ (by omega))) (fun k hk => gi_eq (f1 _ _ (by omega))) (fun s hs => gi_eq (f1 _ _ (by omega))) (v3 i hi)) (fun b k z => f1 b k (fun w => z ⟨by unfold mtb; omega, by omega⟩)) E1
theorem gs_loop {h : rk_S} {w : Int32} {cn : Nat} (hG : yG h) (ht : (gi h 316 21).toInt = tn) (htn : tn < 2) (hcn : (gi h 322 tn).toInt = cn) (hc : cn ≤ 32) (hw : w.toInt = ((32 * tn : Nat) : Int)) : ∀ (n d : Nat) (o : Option Value × rk_S) (g y z0 : Int32) (p i : Nat), g.toInt = ((32 * tn + p : Nat) : Int) → p ≤ 32 → y.toInt = ((32 * tn + i : Nat) : Int) → i ≤ 32 → rk_ex n d rm_X8_goes 12 [(0, .ref 316), (1, .int w), (2, .int g), (3, .int y), (4, .int z0)] [] h = some o → ∃ z p', o = (some (.int z), h) ∧ z.toInt = ((32 * tn + p' : Nat) : Int) ∧ p' ≤ 32 := by
  intro n
  induction n using Nat.strongRecOn with
  | ind n ih =>
    intro d o g y z0 p i hg hp hy hi E
    have hy1 : (y + (1 : Int32)).toInt = ((32 * tn + (i + 1) : Nat) : Int) := by
      rw [y_inc hy (by omega)]
      omega
    have A := ym_gs hG E
    rw [y_ix ht, y_addc hw hcn (by omega)] at A
    rcases A with ⟨c1, -, rfl⟩ | ⟨c1, -, -, m, hm, -, E'⟩ | ⟨c1, -, -, -, m, hm, -, E'⟩ | ⟨c1, -, -, -, m, hm, -, E'⟩ | ⟨c1, -, -, m, hm, -, E'⟩ | ⟨c1, -, -, m, hm, -, E'⟩
    · exact ⟨_, p, rfl, hg, hp⟩
    · exact ih m hm d o _ _ _ p (i + 1) hg hp hy1 (by omega) E'
    · exact ih m hm d o _ _ _ p (i + 1) hg hp hy1 (by omega) E'
    · exact ih m hm d o _ _ _ i (i + 1) hy (by omega) hy1 (by omega) E'
    · exact ih m hm d o _ _ _ p (i + 1) hg hp hy1 (by omega) E'
    · exact ih m hm d o _ _ _ i (i + 1) hy (by omega) hy1 (by omega) E'
theorem gs_ok {n d cn : Nat} {h : rk_S} {o : Option Value × rk_S} (hG : yG h) (ht : (gi h 316 21).toInt = tn) (htn : tn < 2) (hcn : (gi h 322 tn).toInt = cn) (hc : cn ≤ 32) (E : rk_ex n d rm_X8_goes 0 [(0, .ref 316)] [] h = some o) : ∃ z p', o = (some (.int z), h) ∧ z.toInt = ((32 * tn + p' : Nat) : Int) ∧ p' ≤ 32 := by
  obtain ⟨m, hm, -, E1⟩ := ym_gs0 hG E
  have e := y_mulc (c := 32) (cn := 32) rfl ht (by omega)
  exact gs_loop hG ht htn hcn hc e m d o _ _ _ 0 0 (by rw [e]; omega) (by omega) (by rw [e]; omega) (by omega) E1
/-- what keeping leaves -/
def flM (h h' : rk_S) (tn q fn : Nat) : Prop := gi h' 323 q = gi h 334 fn ∧ gi h' 324 q = gi h 340 fn ∧ gi h' 326 q = gi h 341 fn ∧ (gi h' 328 q = if (gi h 316 39).toInt = 0 then gi h 316 41 else 0) ∧ gi h' 329 q = gi h 316 39 ∧ gi h' 330 q = gi h 316 34 - gi h 339 fn ∧ gi h' 331 q = gi h 342 fn ∧ (∀ i, i < 3 → bt (gi h 340 fn) i = true → gi h' 325 (3 * q + i) = gi h 336 (3 * fn + i)) ∧ (∀ s, s < 16 → bt (gi h 341 fn) s = true → gi h' 327 (16 * q + s) = gi h 320 (16 * tn + s))
theorem kn5_loop {f y : Int32} {fn q : Nat} (hf : f.toInt = fn) (hfn : fn < 12) (hy : y.toInt = q) (hq : q < 64) (htn : tn < 2) {h0 : rk_S} (ht : (gi h0 316 21).toInt = tn) : ∀ (n d : Nat) (h : rk_S) (o : Option Value × rk_S) (j : Int32) (jn : Nat), yG h → j.toInt = jn → jn ≤ 16 → (∀ b k, ¬ (b = 327 ∧ 16 * q ≤ k ∧ k < 16 * q + 16) → rk_get h b k = rk_get h0 b k) → (∀ s, s < jn → bt (gi h0 341 fn) s = true → gi h 327 (16 * q + s) = gi h0 320 (16 * tn + s)) → rk_ex n d rm_X8_keepNow 238 [(0, .ref 316), (1, .int f), (2, .int y), (3, .int j)] [] h = some o → ∃ h', o = (none, h') ∧ yG h' ∧ (∀ b k, ¬ (b = 327 ∧ 16 * q ≤ k ∧ k < 16 * q + 16) → rk_get h' b k = rk_get h0 b k) ∧ (∀ s, s < 16 → bt (gi h0 341 fn) s = true → gi h' 327 (16 * q + s) = gi h0 320 (16 * tn + s)) := by
  intro n
  induction n using Nat.strongRecOn with
  | ind n ih =>
    intro d h o j jn hG hj hjn hfr hp E
    have hj1 := y_inc hj (by omega)
    have ht' : (gi h 316 21).toInt = tn := by rw [gi_eq (hfr _ _ (by omega))]; exact ht
    have A := ym_kn5 hG E
    rw [y_ix hf, y_ix (y_16 (c := 16) (cn := 16) rfl hy hj (by omega)), y_ix (y_16 (c := 16) (cn := 16) rfl ht' hj (by omega))] at A
    rcases A with ⟨c1, -, rfl⟩ | ⟨c1, c2, m, hm, hG', E'⟩ | ⟨c1, c2, m, hm, hG', E'⟩
    · exact ⟨h, rfl, hG, hfr, fun s hs => hp s (by omega)⟩
    · refine ih m hm d _ o _ (jn + 1) hG' hj1 (by omega) (fun b k hb => (rk_get_ne (by omega)).trans (hfr b k hb)) (fun s hs hb => ?_) E'
      by_cases e : s = jn
      · subst e
        refine absurd ((y_bit1 (by omega) (by omega)).mpr ?_) c2
        rw [show j.toInt.toNat = s by omega, gi_eq (hfr 341 fn (by omega))]
        exact hb
      · rw [gi_y (by omega)]
        exact hp s (by omega) hb
    · refine ih m hm d _ o _ (jn + 1) hG' hj1 (by omega) (fun b k hb => (rk_get_ne (by omega)).trans (hfr b k hb)) (fun s hs hb => ?_) E'
      by_cases e : s = jn
      · subst e
        rw [gi_s (hG.yE (by decide) (by decide) (by rw [yln_m.2.2.2.2.2.2.2.2.2.2.2.1]; omega)), gi_eq (hfr 320 _ (by omega))]
      · rw [gi_y (by omega)]
        exact hp s (by omega) hb
theorem kn4_loop {f y : Int32} {fn q : Nat} (hf : f.toInt = fn) (hfn : fn < 12) (hy : y.toInt = q) (hq : q < 64) (htn : tn < 2) {h0 : rk_S} (ht : (gi h0 316 21).toInt = tn) : ∀ (n d : Nat) (h : rk_S) (o : Option Value × rk_S) (j : Int32) (jn : Nat), yG h → j.toInt = jn → jn ≤ 3 → (∀ b k, ¬ (b = 325 ∧ 3 * q ≤ k ∧ k < 3 * q + 3) → rk_get h b k = rk_get h0 b k) → (∀ s, s < jn → bt (gi h0 340 fn) s = true → gi h 325 (3 * q + s) = gi h0 336 (3 * fn + s)) → rk_ex n d rm_X8_keepNow 187 [(0, .ref 316), (1, .int f), (2, .int y), (3, .int j)] [] h = some o → ∃ h', o = (none, h') ∧ yG h' ∧ (∀ b k, ¬ (b = 325 ∧ 3 * q ≤ k ∧ k < 3 * q + 3) → ¬ (b = 327 ∧ 16 * q ≤ k ∧ k < 16 * q + 16) → rk_get h' b k = rk_get h0 b k) ∧ (∀ s, s < 3 → bt (gi h0 340 fn) s = true → gi h' 325 (3 * q + s) = gi h0 336 (3 * fn + s)) ∧ (∀ s, s < 16 → bt (gi h0 341 fn) s = true → gi h' 327 (16 * q + s) = gi h0 320 (16 * tn + s)) := by
  intro n
  induction n using Nat.strongRecOn with
  | ind n ih =>
    intro d h o j jn hG hj hjn hfr hp E
    have hj1 := y_inc hj (by omega)
    have A := ym_kn4 hG E
    rw [y_ix hf, y_ix (y_16 (c := 3) (cn := 3) rfl hy hj (by omega)), y_ix (y_16 (c := 3) (cn := 3) rfl hf hj (by omega))] at A
    rcases A with ⟨c1, m, hm, -, E'⟩ | ⟨c1, c2, m, hm, hG', E'⟩ | ⟨c1, c2, m, hm, hG', E'⟩
    · obtain ⟨h', rfl, g1, g2, g3⟩ := kn5_loop hf hfn hy hq htn (h0 := h) (by rw [gi_eq (hfr _ _ (by omega))]; exact ht) m d h o 0 0 hG rfl (by omega) (fun _ _ _ => rfl) (fun s hs => by omega) E'
      refine ⟨h', rfl, g1, fun b k z1 z2 => (g2 b k z2).trans (hfr b k z1), fun s hs hb => ?_, fun s hs hb => ?_⟩
      · rw [gi_eq (g2 325 _ (by omega))]
        exact hp s (by omega) hb
      · rw [g3 s hs (by rw [gi_eq (hfr _ _ (by omega))]; exact hb), gi_eq (hfr 320 _ (by omega))]
    · refine ih m hm d _ o _ (jn + 1) hG' hj1 (by omega) (fun b k hb => (rk_get_ne (by omega)).trans (hfr b k hb)) (fun s hs hb => ?_) E'
      by_cases e : s = jn
      · subst e
        refine absurd ((y_bit1 (by omega) (by omega)).mpr ?_) c2
        rw [show j.toInt.toNat = s by omega, gi_eq (hfr 340 fn (by omega))]
        exact hb
      · rw [gi_y (by omega)]
        exact hp s (by omega) hb
    · refine ih m hm d _ o _ (jn + 1) hG' hj1 (by omega) (fun b k hb => (rk_get_ne (by omega)).trans (hfr b k hb)) (fun s hs hb => ?_) E'
      by_cases e : s = jn
      · subst e
        rw [gi_s (hG.yE (by decide) (by decide) (by rw [yln_m.2.2.2.2.2.2.2.2.2.1]; omega)), gi_eq (hfr 336 _ (by omega))]
      · rw [gi_y (by omega)]
        exact hp s (by omega) hb
theorem kn24_ok {n d fn cn : Nat} {h : rk_S} {o : Option Value × rk_S} (hG : yG h) (ht : (gi h 316 21).toInt = tn) (htn : tn < 2) (hcn : (gi h 322 tn).toInt = cn) (hc : cn ≤ 31) (hV : ∀ i, i < cn → KM N ln cd h (32 * tn + i)) (hd : (gi h 316 24).toInt = ((fn + 1 : Nat) : Int)) (hfn : fn < 12) (hnew : ∀ h' q, q < 64 → flM h h' tn q fn → KM N ln cd h' q) (E : rk_ex n d rm_X8_keepNow 24 [(0, .ref 316)] [] h = some o) : ∃ h', o = (none, h') ∧ yG h' ∧ VM N ln cd tn h' ∧ ∀ b k, ¬ (mtb tn b k ∧ 322 ≤ b) → ¬ (b = 316 ∧ k = 20) → rk_get h' b k = rk_get h b k := by
  obtain ⟨l316, -, -, -, -, -, l322, l323, l324, -, l326, -, l328, l329, l330, l331, -⟩ := yln_m
  have hdf : ((gi h 316 24) - (1 : Int32)).toInt = ((fn : Nat) : Int) := by
    rw [y_subc hd (j := 1) rfl (by omega) (by omega)]
    omega
  have hq : ((32 : Int32) * (gi h 316 21) + gi h 322 tn).toInt = ((32 * tn + cn : Nat) : Int) := y_16 (c := 32) (cn := 32) rfl ht hcn (by omega)
  obtain ⟨m, hm, hG1, E1⟩ := ym_kn1 hG E
  rw [y_ix ht, y_ix hq, y_ix hdf] at hG1 E1
  obtain ⟨y, hyq⟩ : ∃ y, y = (32 : Int32) * (gi h 316 21) + gi h 322 tn := ⟨_, rfl⟩
  obtain ⟨f, hff⟩ : ∃ f, f = (gi h 316 24) - (1 : Int32) := ⟨_, rfl⟩
  rw [← hyq] at hq E1
  rw [← hff] at hdf E1
  obtain ⟨q, hqq⟩ : ∃ q, q = 32 * tn + cn := ⟨_, rfl⟩
  rw [← hqq] at hq hG1 E1
  have hq64 : q < 64 := by omega
  have eq := y_ix hq
  have ef := y_ix hdf
  obtain ⟨H1, hH1⟩ : ∃ H, H = rk_pt (rk_pt (rk_pt (rk_pt h 322 tn (.int ((gi h 322 tn) + (1 : Int32)))) 323 q (.int (gi h 334 fn))) 324 q (.int (gi h 340 fn))) 326 q (.int (gi h 341 fn)) := ⟨_, rfl⟩
  rw [← hH1] at hG1 E1
  have a322 : gi H1 322 tn = gi h 322 tn + 1 := by rw [hH1, gi_x (by decide), gi_x (by decide), gi_x (by decide), gi_s (hG.yE (by decide) (by decide) (by rw [l322]; exact htn))]
  have a323 : gi H1 323 q = gi h 334 fn := by rw [hH1, gi_x (by decide), gi_x (by decide), gi_s (yE_pt.mpr (hG.yE (by decide) (by decide) (by rw [l323]; exact hq64)))]
  have a324 : gi H1 324 q = gi h 340 fn := by rw [hH1, gi_x (by decide), gi_s (yE_pt.mpr (yE_pt.mpr (hG.yE (by decide) (by decide) (by rw [l324]; exact hq64))))]
  have a326 : gi H1 326 q = gi h 341 fn := by rw [hH1, gi_s (yE_pt.mpr (yE_pt.mpr (yE_pt.mpr (hG.yE (by decide) (by decide) (by rw [l326]; exact hq64)))))]
  have f1 : ∀ b k, ¬ (b = 322 ∧ k = tn) → ¬ ((b = 323 ∨ b = 324 ∨ b = 326) ∧ k = q) → rk_get H1 b k = rk_get h b k := fun b k z1 z2 => by
    rw [hH1, rk_get_ne (by omega), rk_get_ne (by omega), rk_get_ne (by omega), rk_get_ne (by omega)]
  have B : ∃ m2 H2, m2 < n ∧ yG H2 ∧ (gi H2 328 q = if (gi h 316 39).toInt = 0 then gi h 316 41 else 0) ∧ (∀ b k, ¬ (b = 328 ∧ k = q) → rk_get H2 b k = rk_get H1 b k) ∧ rk_ex m2 d rm_X8_keepNow 119 [(2, .int y), (1, .int f), (0, .ref 316)] [] H2 = some o := by
    have A := ym_kn2 hG1 E1
    rw [eq, gi_eq (f1 316 39 (by omega) (by omega)), gi_eq (f1 316 41 (by omega) (by omega))] at A
    have y8 : yE 328 q H1 := hG1.yE (by decide) (by decide) (by rw [l328]; exact hq64)
    rcases A with ⟨c1, m2, hm2, hG2, E2⟩ | ⟨c1, m2, hm2, hG2, E2⟩
    · exact ⟨m2, _, by omega, hG2, by rw [gi_s y8, if_neg c1], fun b k z => rk_get_ne (by omega), E2⟩
    · exact ⟨m2, _, by omega, hG2, by rw [gi_s y8, if_pos c1], fun b k z => rk_get_ne (by omega), E2⟩
  obtain ⟨m2, H2, hm2, hG2, a328, f2, E2⟩ := B
  obtain ⟨m3, hm3, hG3, E3⟩ := ym_kn3 hG2 E2
  rw [eq, ef] at hG3 E3
  obtain ⟨H3, hH3⟩ : ∃ H, H = rk_pt (rk_pt (rk_pt (rk_pt (rk_pt (rk_pt H2 329 q (.int (gi H2 316 39))) 330 q (.int ((gi H2 316 34) - (gi H2 339 fn)))) 331 q (.int (gi H2 342 fn))) 332 q (.int (0 : Int32))) 333 q (.int (gi H2 316 20))) 316 20 (.int ((gi H2 316 20) + (1 : Int32))) := ⟨_, rfl⟩
  rw [← hH3] at hG3 E3
  have g2 : ∀ b k, b ≠ 322 → b ≠ 323 → b ≠ 324 → b ≠ 326 → b ≠ 328 → rk_get H2 b k = rk_get h b k := fun b k z1 z2 z3 z4 z5 => (f2 b k (by omega)).trans (f1 b k (by omega) (by omega))
  have b329 : gi H3 329 q = gi h 316 39 := by
    rw [hH3, gi_x (by decide), gi_x (by decide), gi_x (by decide), gi_x (by decide), gi_x (by decide), gi_s (hG2.yE (by decide) (by decide) (by rw [l329]; exact hq64)), gi_eq (g2 316 39 (by decide) (by decide) (by decide) (by decide) (by decide))]
  have b330 : gi H3 330 q = gi h 316 34 - gi h 339 fn := by
    rw [hH3, gi_x (by decide), gi_x (by decide), gi_x (by decide), gi_x (by decide), gi_s (yE_pt.mpr (hG2.yE (by decide) (by decide) (by rw [l330]; exact hq64))), gi_eq (g2 316 34 (by decide) (by decide) (by decide) (by decide) (by decide)), gi_eq (g2 339 fn (by decide) (by decide) (by decide) (by decide) (by decide))]
  have b331 : gi H3 331 q = gi h 342 fn := by
    rw [hH3, gi_x (by decide), gi_x (by decide), gi_x (by decide), gi_s (yE_pt.mpr (yE_pt.mpr (hG2.yE (by decide) (by decide) (by rw [l331]; exact hq64)))), gi_eq (g2 342 fn (by decide) (by decide) (by decide) (by decide) (by decide))]
  have f3 : ∀ b k, ¬ ((329 ≤ b ∧ b ≤ 333) ∧ k = q) → ¬ (b = 316 ∧ k = 20) → rk_get H3 b k = rk_get H2 b k := fun b k z1 z2 => by
    rw [hH3, rk_get_ne (by omega), rk_get_ne (by omega), rk_get_ne (by omega), rk_get_ne (by omega), rk_get_ne (by omega), rk_get_ne (by omega)]
  have f123 : ∀ b k, ¬ (b = 322 ∧ k = tn) → ¬ ((323 ≤ b ∧ b ≤ 333) ∧ k = q) → ¬ (b = 316 ∧ k = 20) → rk_get H3 b k = rk_get h b k := fun b k z1 z2 z3 => (f3 b k (by omega) z3).trans ((f2 b k (by omega)).trans (f1 b k z1 (by omega)))
  obtain ⟨h', rfl, g1, g3, g4, g5⟩ := kn4_loop hdf hfn hq hq64 htn (h0 := H3) (by rw [gi_eq (f123 316 21 (by omega) (by omega) (by omega))]; exact ht) m3 d H3 o 0 0 hG3 rfl (by omega) (fun _ _ _ => rfl) (fun s hs => by omega) E3
  have gk : ∀ b, b ≠ 325 → b ≠ 327 → gi h' b q = gi H3 b q := fun b z1 z2 => gi_eq (g3 b q (by omega) (by omega))
  have fin : ∀ b k, ¬ (b = 322 ∧ k = tn) → ¬ (((323 ≤ b ∧ b ≤ 333) ∧ b ≠ 325 ∧ b ≠ 327) ∧ k = q) → ¬ (b = 325 ∧ 3 * q ≤ k ∧ k < 3 * q + 3) → ¬ (b = 327 ∧ 16 * q ≤ k ∧ k < 16 * q + 16) → ¬ (b = 316 ∧ k = 20) → rk_get h' b k = rk_get h b k := fun b k z1 z2 z3 z4 z5 => by
    refine (g3 b k z3 z4).trans ?_
    by_cases e : b = 325 ∨ b = 327
    · rw [f3 b k (by omega) z5, f2 b k (by omega), f1 b k z1 (by omega)]
    · exact f123 b k z1 (by omega) z5
  refine ⟨h', rfl, g1, ⟨cn + 1, ?_, by omega, fun i hi => ?_⟩, fun b k z1 z2 => fin b k ?_ ?_ ?_ ?_ z2⟩
  · rw [gi_eq (g3 322 tn (by omega) (by omega)), gi_eq (f3 322 tn (by omega) (by omega)), gi_eq (f2 322 tn (by omega)), a322, y_inc hcn (by omega)]
  · by_cases e : i = cn
    · subst e
      rw [← hqq]
      refine hnew h' q hq64 ⟨?_, ?_, ?_, ?_, ?_, ?_, ?_, fun k hk hb => ?_, fun s hs hb => ?_⟩
      · rw [gk 323 (by decide) (by decide), gi_eq (f3 323 q (by omega) (by omega)), gi_eq (f2 323 q (by omega)), a323]
      · rw [gk 324 (by decide) (by decide), gi_eq (f3 324 q (by omega) (by omega)), gi_eq (f2 324 q (by omega)), a324]
      · rw [gk 326 (by decide) (by decide), gi_eq (f3 326 q (by omega) (by omega)), gi_eq (f2 326 q (by omega)), a326]
      · rw [gk 328 (by decide) (by decide), gi_eq (f3 328 q (by omega) (by omega)), a328]
      · rw [gk 329 (by decide) (by decide), b329]
      · rw [gk 330 (by decide) (by decide), b330]
      · rw [gk 331 (by decide) (by decide), b331]
      · rw [g4 k hk (by rw [gi_eq (f123 _ _ (by omega) (by omega) (by omega))]; exact hb), gi_eq (f123 _ _ (by omega) (by omega) (by omega))]
      · rw [g5 s hs (by rw [gi_eq (f123 _ _ (by omega) (by omega) (by omega))]; exact hb), gi_eq (f123 _ _ (by omega) (by omega) (by omega))]
    · exact KM_mv (fun b z1 z2 z3 z4 => gi_eq (fin _ _ (by omega) (by omega) (by omega) (by omega) (by omega))) (fun k hk => gi_eq (fin _ _ (by omega) (by omega) (by omega) (by omega) (by omega))) (fun s hs => gi_eq (fin _ _ (by omega) (by omega) (by omega) (by omega) (by omega))) (hV i (by omega))
  · unfold mtb at z1; omega
  · unfold mtb at z1; omega
  · unfold mtb at z1; omega
  · unfold mtb at z1; omega
theorem kn_ok {n d fn rm : Nat} {h : rk_S} {o : Option Value × rk_S} (hG : yG h) (ht : (gi h 316 21).toInt = tn) (htn : tn < 2) (hV : VM N ln cd tn h) (hd : (gi h 316 24).toInt = ((fn + 1 : Nat) : Int)) (hfn : fn < 12) (hrm : (gi h 316 23).toInt = rm) (hrm1 : 1 ≤ rm) (hrm2 : rm ≤ 32) (hnew : ∀ h1 h' q, q < 64 → mkf tn h h1 → flM h1 h' tn q fn → KM N ln cd h' q) (E : rk_ex n d rm_X8_keepNow 0 [(0, .ref 316)] [] h = some o) : ∃ h', o = (none, h') ∧ yG h' ∧ VM N ln cd tn h' ∧ ∀ b k, ¬ (mtb tn b k ∧ 322 ≤ b) → ¬ (b = 316 ∧ k = 20) → rk_get h' b k = rk_get h b k := by
  obtain ⟨cn, v1, v2, v3⟩ := id hV
  have A := ym_kn hG E
  rw [y_ix ht] at A
  rcases A with ⟨c1, m, hm, -, E1⟩ | ⟨c1, m, hm, -, E1⟩
  · exact kn24_ok hG ht htn v1 (by omega) v3 hd hfn (fun h' q hq hf => hnew h h' q hq (fun _ _ _ => rfl) hf) E1
  · obtain ⟨m1, d1, o1, hm1, E2, E3⟩ := E_call (ar := ([.ref 316], [.ref 316])) rfl rfl rfl rfl rfl rfl E1
    obtain ⟨z, p', rfl, hz, hp'⟩ := gs_ok hG ht htn v1 v2 E2
    obtain ⟨m2, d2, o2, hm2, E4, E5⟩ := E_call (ar := ([.ref 316, .int z], [])) rfl rfl rfl rfl rfl rfl E3
    obtain ⟨h1, rfl, g1, g2, g3, g4⟩ := lg_ok hG ht htn hV v1 (by omega) hz hp' E4
    obtain ⟨c2, w1, w2, w3⟩ := g2
    obtain ⟨h', rfl, q1, q2, q3⟩ := kn24_ok (N := N) (ln := ln) (cd := cd) g1 (by rw [gi_eq (g4 _ _ (by omega))]; exact ht) htn w1 (by omega) w3 (by rw [gi_eq (g4 _ _ (by omega))]; exact hd) hfn (fun h' q hq hf => hnew h1 h' q hq g4 hf) E5
    exact ⟨h', rfl, q1, q2, fun b k z1 z2 => (q3 b k z1 z2).trans (g4 b k z1)⟩
end RKML
