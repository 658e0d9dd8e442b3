/-! the reference: entering a call -/
set_option maxRecDepth 100000 in
theorem na_enter : rm_X8_enter.2.2.2.2.2.all (fun q => rk_na q.2.1) = true := by decide +kernel
section RKME
variable {N : Nat} {ln : Nat → Nat} {cd : Nat → Nat → Int} {tn : Nat} {n d dc : Nat} {h : rk_S} {o : Option Value × rk_S}
theorem push_ok {r a b c y : Int32} {rn st : Nat} (hG : yG h) (hd : (gi h 316 24).toInt = dc) (hdc : dc < 12) (hr : r.toInt = rn) (hst : (gi h 316 34).toInt = st) (E : rk_ex n d rm_X8_enter 261 [(5, .int y), (0, .ref 316), (1, .int r), (2, .int a), (3, .int b), (4, .int c)] [] h = some o) : ∃ h', o = (none, h') ∧ yG h' ∧ MFr h' dc rn 0 0 e0 (e3 a b c) eNo eNo 0 st ∧ (gi h' 316 24).toInt = ((dc + 1 : Nat) : Int) ∧ ∀ b k, ¬ (b = 316 ∧ k = 24) → ¬ mfq dc b k → rk_get h' b k = rk_get h b k := by
  have d3 : ((3 : Int32) * (gi h 316 24)).toInt = ((3 * dc : Nat) : Int) := y_mulc (cn := 3) rfl hd (by omega)
  have d31 : ((3 : Int32) * (gi h 316 24) + (1 : Int32)).toInt = ((3 * dc + 1 : Nat) : Int) := y_addc d3 (j := 1) rfl (by omega)
  have d32 : ((3 : Int32) * (gi h 316 24) + (2 : Int32)).toInt = ((3 * dc + 2 : Nat) : Int) := y_addc d3 (j := 2) rfl (by omega)
  obtain ⟨m0, hm0, hG1, E1⟩ := ym_eq0 hG E
  rw [y_ix hd] at hG1 E1
  obtain ⟨H1, hH1⟩ : ∃ H, H = rk_pt (rk_pt h 334 dc (.int r)) 335 dc (.int (0 : Int32)) := ⟨_, rfl⟩
  rw [← hH1] at hG1 E1
  have f1 : ∀ b k, ¬ ((b = 334 ∨ b = 335) ∧ k = dc) → rk_get H1 b k = rk_get h b k := fun b k z => by rw [hH1, rk_get_ne (by omega), rk_get_ne (by omega)]
  have a334 : gi H1 334 dc = r := by rw [hH1, gi_x (by decide), gi_s (yE_f hG (by omega) hdc)]
  have a335 : gi H1 335 dc = 0 := by rw [hH1, gi_s (yE_pt.mpr (yE_f hG (by omega) hdc))]
  obtain ⟨m1, hm1, hG2, E2⟩ := ym_eq1 hG1 E1
  rw [gi_eq (f1 316 24 (by omega)), y_ix d3, y_ix d31] at hG2 E2
  obtain ⟨H2, hH2⟩ : ∃ H, H = rk_pt (rk_pt H1 336 (3 * dc) (.int a)) 336 (3 * dc + 1) (.int b) := ⟨_, rfl⟩
  rw [← hH2] at hG2 E2
  have f2 : ∀ b k, ¬ (b = 336 ∧ (k = 3 * dc ∨ k = 3 * dc + 1)) → rk_get H2 b k = rk_get H1 b k := fun b k z => by rw [hH2, rk_get_ne (by omega), rk_get_ne (by omega)]
  have b0 : gi H2 336 (3 * dc) = a := by rw [hH2, gi_y (by omega), gi_s (yE_336 hG1 (by omega))]
  have b1 : gi H2 336 (3 * dc + 1) = b := by rw [hH2, gi_s (yE_pt.mpr (yE_336 hG1 (by omega)))]
  obtain ⟨m2, hm2, hG3, E3⟩ := ym_eq2 hG2 E2
  rw [gi_eq (f2 316 24 (by omega)), gi_eq (f1 316 24 (by omega)), y_ix d32, y_ix hd] at hG3 E3
  obtain ⟨H3, hH3⟩ : ∃ H, H = rk_pt (rk_pt H2 336 (3 * dc + 2) (.int c)) 337 dc (.int (0 : Int32)) := ⟨_, rfl⟩
  rw [← hH3] at hG3 E3
  have f3 : ∀ b k, ¬ (b = 336 ∧ k = 3 * dc + 2) → ¬ (b = 337 ∧ k = dc) → rk_get H3 b k = rk_get H2 b k := fun b k z1 z2 => by rw [hH3, rk_get_ne (by omega), rk_get_ne (by omega)]
  have b2 : gi H3 336 (3 * dc + 2) = c := by rw [hH3, gi_x (by decide), gi_s (yE_336 hG2 (by omega))]
  have a337 : gi H3 337 dc = 0 := by rw [hH3, gi_s (yE_pt.mpr (yE_f hG2 (by omega) hdc))]
  obtain ⟨m3, hm3, hG4, E4⟩ := ym_eq3 hG3 E3
  have e24 : gi H3 316 24 = gi h 316 24 := by rw [gi_eq (f3 316 24 (by omega) (by omega)), gi_eq (f2 316 24 (by omega)), gi_eq (f1 316 24 (by omega))]
  have e34 : gi H3 316 34 = gi h 316 34 := by rw [gi_eq (f3 316 34 (by omega) (by omega)), gi_eq (f2 316 34 (by omega)), gi_eq (f1 316 34 (by omega))]
  rw [e24, e34, y_ix hd] at hG4 E4
  obtain ⟨H4, hH4⟩ : ∃ H, H = rk_pt (rk_pt H3 339 dc (.int (gi h 316 34))) 340 dc (.int (0 : Int32)) := ⟨_, rfl⟩
  rw [← hH4] at hG4 E4
  have f4 : ∀ b k, ¬ ((b = 339 ∨ b = 340) ∧ k = dc) → rk_get H4 b k = rk_get H3 b k := fun b k z => by rw [hH4, rk_get_ne (by omega), rk_get_ne (by omega)]
  have a339 : gi H4 339 dc = gi h 316 34 := by rw [hH4, gi_x (by decide), gi_s (yE_f hG3 (by omega) hdc)]
  have a340 : gi H4 340 dc = 0 := by rw [hH4, gi_s (yE_pt.mpr (yE_f hG3 (by omega) hdc))]
  obtain ⟨m4, hm4, hG5, E5⟩ := ym_eq4 hG4 E4
  have e24' : gi H4 316 24 = gi h 316 24 := by rw [gi_eq (f4 316 24 (by omega)), e24]
  rw [e24', y_ix hd] at hG5 E5
  obtain ⟨H5, hH5⟩ : ∃ H, H = rk_pt (rk_pt H4 341 dc (.int (0 : Int32))) 342 dc (.int (0 : Int32)) := ⟨_, rfl⟩
  rw [← hH5] at hG5 E5
  have f5 : ∀ b k, ¬ ((b = 341 ∨ b = 342) ∧ k = dc) → rk_get H5 b k = rk_get H4 b k := fun b k z => by rw [hH5, rk_get_ne (by omega), rk_get_ne (by omega)]
  have a341 : gi H5 341 dc = 0 := by rw [hH5, gi_x (by decide), gi_s (yE_f hG4 (by omega) hdc)]
  have a342 : gi H5 342 dc = 0 := by rw [hH5, gi_s (yE_pt.mpr (yE_f hG4 (by omega) hdc))]
  obtain ⟨hG6, rfl⟩ := ym_eq5 hG5 E5
  have e24'' : gi H5 316 24 = gi h 316 24 := by rw [gi_eq (f5 316 24 (by omega)), e24']
  rw [e24''] at hG6 ⊢
  have f6 : ∀ b k, ¬ (b = 316 ∧ k = 24) → rk_get (rk_pt H5 316 24 (.int ((gi h 316 24) + (1 : Int32)))) b k = rk_get H5 b k := fun b k z => rk_get_ne (by omega)
  refine ⟨_, rfl, hG6, ⟨?_, ?_, fun i hi => ?_, ⟨?_, by omega, fun i hi => by omega⟩, ?_, fun b => ?_, fun b => ?_, ?_⟩, ?_, fun b k z1 z2 => ?_⟩
  · rw [gi_eq (f6 _ _ (by omega)), gi_eq (f5 _ _ (by omega)), gi_eq (f4 _ _ (by omega)), gi_eq (f3 _ _ (by omega) (by omega)), gi_eq (f2 _ _ (by omega)), a334]; exact hr
  · rw [gi_eq (f6 _ _ (by omega)), gi_eq (f5 _ _ (by omega)), gi_eq (f4 _ _ (by omega)), gi_eq (f3 _ _ (by omega) (by omega)), gi_eq (f2 _ _ (by omega)), a335]; rfl
  · have hi : i = 0 ∨ i = 1 ∨ i = 2 := by omega
    rw [gi_eq (f6 _ _ (by omega)), gi_eq (f5 _ _ (by omega)), gi_eq (f4 _ _ (by omega))]
    rcases hi with rfl | rfl | rfl
    · rw [gi_eq (f3 _ _ (by omega) (by omega)), Nat.add_zero, b0, e3_0]
    · rw [gi_eq (f3 _ _ (by omega) (by omega)), b1, e3_1]
    · rw [b2, e3_2]
  · rw [gi_eq (f6 _ _ (by omega)), gi_eq (f5 _ _ (by omega)), gi_eq (f4 _ _ (by omega)), a337]; rfl
  · rw [gi_eq (f6 _ _ (by omega)), gi_eq (f5 _ _ (by omega)), a339]; exact hst
  · rw [gi_eq (f6 _ _ (by omega)), gi_eq (f5 _ _ (by omega)), a340, bt_zero]; rfl
  · rw [gi_eq (f6 _ _ (by omega)), a341, bt_zero]; rfl
  · rw [gi_eq (f6 _ _ (by omega)), a342]; rfl
  · rw [gi_s (yE_m hG5 (by decide)), y_inc hd (by omega)]
  · unfold mfq at z2
    rw [f6 b k z1, f5 b k (by omega), f4 b k (by omega), f3 b k (by omega) (by omega), f2 b k (by omega), f1 b k (by omega)]
/-- what entering comes to: a frame more, or a kept answer -/
theorem men_ok {r a b c : Int32} {rn st : Nat} {S : eS} {L : Int32} {cc : eC} (hG : yG h) (ht : (gi h 316 21).toInt = tn) (htn : tn < 2) (hV : VM N ln cd tn h) (hd : (gi h 316 24).toInt = dc) (hdc : dc < 12) (hr : r.toInt = rn) (hrn : rn < 10) (hW : MW tn h S L) (hst : (gi h 316 34).toInt = st) (hst2 : st ≤ 2000) (hC : 1 ≤ dc → MC h (dc - 1) cc ∧ cc.2.2.1 ≤ 19) (E : rk_ex n d rm_X8_enter 0 [(0, .ref 316), (1, .int r), (2, .int a), (3, .int b), (4, .int c)] [] h = some o) :
    (∃ h', o = (none, h') ∧ yG h' ∧ MFr h' dc rn 0 0 e0 (e3 a b c) eNo eNo 0 st ∧ (gi h' 316 24).toInt = ((dc + 1 : Nat) : Int) ∧ ∀ b k, ¬ (b = 316 ∧ (k = 24 ∨ k = 37 ∨ k = 38)) → ¬ mfq dc b k → rk_get h' b k = rk_get h b k) ∨
    (∃ h', o = (none, h') ∧ RT N ln cd tn dc cc h h' (EV true N ln cd (11 - dc) rn (e3 a b c) S L st)) := by
  have s1 : ∃ m1 H1, m1 < n ∧ yG H1 ∧ (∀ b k, ¬ (b = 316 ∧ k = 38) → rk_get H1 b k = rk_get h b k) ∧ rk_ex m1 d rm_X8_enter 30 [(0, .ref 316), (1, .int r), (2, .int a), (3, .int b), (4, .int c)] [] H1 = some o := by
    rcases ym_en hG E with ⟨-, m, hm, hG1, E1⟩ | ⟨-, m, hm, hG1, E1⟩
    · exact ⟨m, _, hm, hG1, fun b k z => rk_get_ne (by omega), E1⟩
    · exact ⟨m, _, hm, hG1, fun b k z => rk_get_ne (by omega), E1⟩
  obtain ⟨m1, H1, hm1, hG1, f1, E1⟩ := s1
  have hd1 : (gi H1 316 24).toInt = dc := by rw [gi_eq (f1 _ _ (by omega))]; exact hd
  have hst1 : (gi H1 316 34).toInt = st := by rw [gi_eq (f1 _ _ (by omega))]; exact hst
  -- one more frame
  have push : ∀ (m2 : Nat) (y : Int32) (H2 : rk_S), yG H2 → (∀ b k, ¬ (b = 316 ∧ (k = 37 ∨ k = 38)) → rk_get H2 b k = rk_get h b k) → rk_ex m2 d rm_X8_enter 261 [(5, .int y), (0, .ref 316), (1, .int r), (2, .int a), (3, .int b), (4, .int c)] [] H2 = some o → ∃ h', o = (none, h') ∧ yG h' ∧ MFr h' dc rn 0 0 e0 (e3 a b c) eNo eNo 0 st ∧ (gi h' 316 24).toInt = ((dc + 1 : Nat) : Int) ∧ ∀ b k, ¬ (b = 316 ∧ (k = 24 ∨ k = 37 ∨ k = 38)) → ¬ mfq dc b k → rk_get h' b k = rk_get h b k := by
    intro m2 y H2 hG2 f2 E2
    obtain ⟨h', e1, e2, e3', e4, e5⟩ := push_ok hG2 (by rw [gi_eq (f2 _ _ (by omega))]; exact hd) hdc hr (by rw [gi_eq (f2 _ _ (by omega))]; exact hst) E2
    exact ⟨h', e1, e2, e3', e4, fun b k z1 z2 => (e5 b k (by omega) z2).trans (f2 b k (by omega))⟩
  rcases ym_en0 hG1 E1 with ⟨c1, m2, hm2, -, E2⟩ | ⟨c1, m2, hm2, -, E2⟩
  · exact Or.inl (push m2 0 H1 hG1 (fun b k z => f1 b k (by omega)) (E_lv [(5, .int 0), (0, .ref 316), (1, .int r), (2, .int a), (3, .int b), (4, .int c)] na_enter (lvs_c rfl rfl (lvs_c rfl rfl (lvs_c rfl rfl (lvs_c rfl rfl (lvs_c rfl rfl lvs_n))))) E2))
  · obtain ⟨m3, d3, o3, hm3, E3, E4⟩ := E_call (ar := ([.ref 316, .int r, .int a, .int b, .int c], [])) rfl rfl rfl rfl rfl rfl E2
    obtain ⟨cn, v1, v2, v3⟩ := id hV
    obtain ⟨w, rfl, hw⟩ := fd_ok hG1 (by rw [gi_eq (f1 _ _ (by omega))]; exact ht) htn (by rw [gi_eq (f1 _ _ (by omega))]; exact v1) v2 E3
    have miss : ∀ m4, rk_ex m4 d rm_X8_enter 251 [(5, .int w), (0, .ref 316), (1, .int r), (2, .int a), (3, .int b), (4, .int c)] [] H1 = some o → ∃ h', o = (none, h') ∧ yG h' ∧ MFr h' dc rn 0 0 e0 (e3 a b c) eNo eNo 0 st ∧ (gi h' 316 24).toInt = ((dc + 1 : Nat) : Int) ∧ ∀ b k, ¬ (b = 316 ∧ (k = 24 ∨ k = 37 ∨ k = 38)) → ¬ mfq dc b k → rk_get h' b k = rk_get h b k := by
      intro m4 E5
      obtain ⟨m5, hm5, hG5, E6⟩ := ym_en2 hG1 E5
      exact push m5 w _ hG5 (fun b k z => (rk_get_ne (by omega)).trans (f1 b k (by omega))) E6
    have A := ym_en1 hG1 E4
    rcases A with ⟨-, m4, hm4, -, E5⟩ | ⟨-, -, m4, hm4, -, E5⟩ | ⟨-, -, -, m4, hm4, -, E5⟩ | A
    · exact Or.inl (miss m4 E5)
    · exact Or.inl (miss m4 E5)
    · exact Or.inl (miss m4 E5)
    · refine Or.inr ?_
      -- one that holds
      have B : ¬ (w.toInt < 0) ∧ ¬ (2000 < ((gi H1 316 34) + (gi H1 330 w.toNatClampNeg)).toInt) ∧ ¬ (12 < (((gi H1 316 24) + (1 : Int32)) + (gi H1 331 w.toNatClampNeg)).toInt) ∧ ∃ m5 H2, yG H2 ∧ gi H2 316 34 = (gi H1 316 34) + (gi H1 330 w.toNatClampNeg) ∧ (∀ b k, ¬ (b = 316 ∧ (k = 36 ∨ k = 20 ∨ k = 34 ∨ k = 38)) → ¬ ((b = 332 ∨ b = 333) ∧ k = w.toNatClampNeg) → rk_get H2 b k = rk_get H1 b k) ∧ rk_ex m5 d rm_X8_enter 214 [(5, .int w), (0, .ref 316), (1, .int r), (2, .int a), (3, .int b), (4, .int c)] [.int (gi H1 331 w.toNatClampNeg), .int (gi H1 326 w.toNatClampNeg), .ref 316] H2 = some o := by
        have y34 := yE_m hG1 (k := 34) (by decide)
        rcases A with ⟨k1, k2, k3, -, m5, hm5, hG5, E5⟩ | ⟨k1, k2, k3, -, m5, hm5, hG5, E5⟩
        · exact ⟨k1, k2, k3, m5, _, hG5, by rw [gi_y (by decide), gi_s (yE_pt.mpr (yE_pt.mpr (yE_pt.mpr (yE_pt.mpr y34))))], fun b k z1 z2 => by rw [rk_get_ne (by omega), rk_get_ne (by omega), rk_get_ne (by omega), rk_get_ne (by omega), rk_get_ne (by omega), rk_get_ne (by omega)], E5⟩
        · exact ⟨k1, k2, k3, m5, _, hG5, by rw [gi_y (by decide), gi_s (yE_pt.mpr (yE_pt.mpr (yE_pt.mpr (yE_pt.mpr y34))))], fun b k z1 z2 => by rw [rk_get_ne (by omega), rk_get_ne (by omega), rk_get_ne (by omega), rk_get_ne (by omega), rk_get_ne (by omega), rk_get_ne (by omega)], E5⟩
      obtain ⟨k1, k2, k3, m5, H2, hG2, e34, f2, E5⟩ := B
      obtain ⟨j, hj, hwj, z1, z2, z3⟩ := hw k1
      rw [y_ix hwj] at k2 k3 e34 f2 E5
      obtain ⟨q, hqq⟩ : ∃ q, q = 32 * tn + j := ⟨_, rfl⟩
      rw [← hqq] at k2 k3 e34 f2 E5 z1 z2 z3 hwj
      have hq64 : q < 64 := by omega
      obtain ⟨r0, e, wi, ks, v, nr, sr, a1, a2, a3, a4, a5, a6, a7, a8, a9, a10, a11, a12, a13⟩ := v3 j hj
      rw [← hqq] at a1 a2 a3 a4 a5 a7 a9 a13
      have g1 : ∀ b k, b ≠ 316 → gi H1 b k = gi h b k := fun b k z => gi_eq (f1 b k (by omega))
      rw [g1 330 q (by decide)] at k2 e34
      rw [g1 331 q (by decide)] at k3 E5
      rw [g1 326 q (by decide)] at E5
      rw [g1 323 q (by decide)] at z1
      have hr0 : r0 = rn := by omega
      subst hr0
      have es : ((gi H1 316 34) + (gi h 330 q)).toInt = ((st + ks : Nat) : Int) := y_addc hst1 a7 (by omega)
      have ed : (((gi H1 316 24) + (1 : Int32)) + (gi h 331 q)).toInt = ((dc + 1 + wi : Nat) : Int) := y_addc (y_inc hd1 (by omega)) a9 (by omega)
      have ev := a13 (e3 a b c) S L (11 - dc) st (fun i hi => by
        have := z2 i (a11 i hi) (by rw [g1 324 q (by decide), a2]; exact hi)
        rw [g1 325 _ (by decide)] at this
        exact this.symm) (fun s hs => by
        have := z3 s (a12 s hs) (by rw [g1 326 q (by decide), a3]; exact hs)
        rw [g1 327 _ (by decide), g1 320 _ (by decide)] at this
        rw [this]
        exact (hW.1 s (a12 s hs)).symm) (by omega) (by omega)
      rw [ev]
      have hd2 : (gi H2 316 24).toInt = dc := by rw [gi_eq (f2 _ _ (by omega) (by omega))]; exact hd1
      have f12 : ∀ b k, ¬ (b = 316 ∧ (k = 36 ∨ k = 20 ∨ k = 34 ∨ k = 38)) → ¬ ((b = 332 ∨ b = 333) ∧ k = q) → rk_get H2 b k = rk_get h b k := fun b k x1 x2 => (f2 b k x1 x2).trans (f1 b k (by omega))
      obtain ⟨m6, d6, o6, hm6, E6, E7⟩ := E_call (ar := ([.ref 316, .int (gi h 326 q), .int (gi h 331 q)], [])) rfl rfl rfl rfl rfl rfl E5
      obtain ⟨h3, rfl, hG3, f3, hM3⟩ := arn_ok (c := cc) hG2 hd2 (by omega) a9 a10 a3 (fun z => MFr_eq (fun b k hb => f12 b k (by unfold mfq at hb; omega) (by unfold mfq at hb; omega)) (hC z).1) E6
      have A4 := ym_en4 hG3 E7
      rw [y_ix hwj, gi_eq (f3 329 q (by omega)), gi_eq (f3 328 q (by omega)), gi_eq (f12 329 q (by omega) (by omega)), gi_eq (f12 328 q (by omega) (by omega)), gi_s (yE_m hG3 (by decide)), a4] at A4
      have s5 : ∃ H5, yG H5 ∧ gi H5 316 39 = gi h 329 q ∧ gi H5 316 41 = v ∧ (∀ b k, ¬ (b = 316 ∧ (k = 39 ∨ k = 41)) → rk_get H5 b k = rk_get h3 b k) ∧ ((¬ e = 0 ∧ o = (none, H5)) ∨ (e = 0 ∧ ∃ m7, rk_ex m7 d rm_X8_enter 247 [(5, .int w), (0, .ref 316), (1, .int r), (2, .int a), (3, .int b), (4, .int c)] [.ref 316] H5 = some o)) := by
        have x1 : gi (rk_pt (rk_pt h3 316 39 (.int (gi h 329 q))) 316 41 (.int v)) 316 39 = gi h 329 q := by rw [gi_y (by decide), gi_s (yE_m hG3 (by decide))]
        have x2 : gi (rk_pt (rk_pt h3 316 39 (.int (gi h 329 q))) 316 41 (.int v)) 316 41 = v := gi_s (yE_pt.mpr (yE_m hG3 (by decide)))
        have x3 : ∀ b k, ¬ (b = 316 ∧ (k = 39 ∨ k = 41)) → rk_get (rk_pt (rk_pt h3 316 39 (.int (gi h 329 q))) 316 41 (.int v)) b k = rk_get h3 b k := fun b k z => by rw [rk_get_ne (by omega), rk_get_ne (by omega)]
        rcases A4 with ⟨c2, hG5, rfl⟩ | ⟨c2, m7, hm7, hG5, E8⟩
        · exact ⟨_, hG5, x1, x2, x3, Or.inl ⟨by omega, rfl⟩⟩
        · exact ⟨_, hG5, x1, x2, x3, Or.inr ⟨by omega, m7, E8⟩⟩
      obtain ⟨H5, hG5, e39, e41, f5, hend⟩ := s5
      have f125 : ∀ b k, ¬ (b = 316 ∧ (k = 36 ∨ k = 20 ∨ k = 34 ∨ k = 38 ∨ k = 39 ∨ k = 41)) → ¬ ((b = 332 ∨ b = 333) ∧ k = q) → ¬ (1 ≤ dc ∧ (b = 341 ∨ b = 342) ∧ k = dc - 1) → rk_get H5 b k = rk_get h b k := fun b k x1 x2 x3 => (f5 b k (by omega)).trans ((f3 b k x3).trans (f12 b k (by omega) x2))
      have hV5 : VM N ln cd tn H5 := VM_eq (fun b k x1 x2 => f125 b k (by omega) (by omega) (by omega)) hV
      have hW5 : MW tn H5 S L := MW_eq (fun b k x => f125 b k (by omega) (by omega) (by omega)) hW
      have h34 : (gi H5 316 34).toInt = ((st + ks : Nat) : Int) := by
        rw [gi_eq (f5 316 34 (by omega)), gi_eq (f3 316 34 (by omega)), e34]
        exact es
      have hte : tel e = (e : Int) := by
        unfold tel
        rw [if_neg (by omega)]
      have hmf : mfr tn (dc - 1) h H5 := fun b k x1 x2 x3 => f125 b k (by omega) (fun z => x2 (by unfold mtb; omega)) (fun z => x3 ⟨by omega, by unfold mfp; omega⟩)
      rcases hend with ⟨c3, rfl⟩ | ⟨c3, m7, E8⟩
      · refine ⟨H5, rfl, hG5, hV5, hW5, h34, ?_, fun z => by omega, fun _ => gi_eq (f125 _ _ (by omega) (by omega) (by omega)), ?_, e41, hmf, fun z => ?_⟩
        · rw [e39, hte]; exact a5
        · rw [gi_eq (f125 _ _ (by omega) (by omega) (by omega))]; exact hd
        · have := MFr_eq (h' := H5) (fun b k hb => f5 b k (by unfold mfq at hb; omega)) (hM3 z)
          unfold MC cjn
          dsimp only at this ⊢
          rw [if_neg c3, if_neg c3]
          exact this
      · obtain ⟨m8, d8, o8, hm8, E9, E10⟩ := E_call (ar := ([.ref 316], [])) rfl rfl rfl rfl rfl rfl E8
        obtain ⟨h6, rfl, hG6, f6, hM6⟩ := com_ok (c := (cc.1, cc.2.1, cc.2.2.1, cc.2.2.2.1, cc.2.2.2.2.1, cc.2.2.2.2.2.1, eor cc.2.2.2.2.2.2.1 sr, max cc.2.2.2.2.2.2.2.1 (wi + 1), cc.2.2.2.2.2.2.2.2)) hG5 (by rw [gi_eq (f125 _ _ (by omega) (by omega) (by omega))]; exact hd) (by omega) (fun z => ⟨MFr_eq (fun b k hb => f5 b k (by unfold mfq at hb; omega)) (hM3 z), (hC z).2⟩) E9
        obtain ⟨-, rfl⟩ := ym_en5 hG6 E10
        refine ⟨h6, rfl, hG6, VM_eq (fun b k x1 x2 => f6 b k (by omega)) hV5, MW_eq (fun b k x => f6 b k (by omega)) hW5, ?_, ?_, fun z => by omega, fun _ => ?_, ?_, ?_, fun b k x1 x2 x3 => (f6 b k (fun z => x3 ⟨by omega, by unfold mfp; omega⟩)).trans (hmf b k x1 x2 x3), fun z => ?_⟩
        · rw [gi_eq (f6 _ _ (by omega))]; exact h34
        · rw [gi_eq (f6 _ _ (by omega)), e39, hte]; exact a5
        · rw [gi_eq (f6 _ _ (by omega))]; exact gi_eq (f125 _ _ (by omega) (by omega) (by omega))
        · rw [gi_eq (f6 _ _ (by omega)), gi_eq (f125 _ _ (by omega) (by omega) (by omega))]; exact hd
        · rw [gi_eq (f6 _ _ (by omega))]; exact e41
        · have := hM6 z
          rw [e41] at this
          unfold MC cjn
          unfold MC at this
          dsimp only at this ⊢
          rw [if_pos c3, if_pos c3]
          exact this
end RKME
