/-! the class's codes are the document's -/
def PR (N : Nat) (ln : Nat → Nat) (cd : Nat → Nat → Int) (h : rk_S) : Prop := (gi h 2 5).toInt = (N : Int) ∧ N ≤ 10 ∧ ∀ r, r < N → (gi h 14 r).toInt = (ln r : Int) ∧ ln r ≤ 40 ∧ ∀ i, i < ln r → (gi h (4 + r) i).toInt = cd r i ∧ okc (cd r i)
theorem PR_eq {N : Nat} {ln : Nat → Nat} {cd : Nat → Nat → Int} {h h' : rk_S} (he : ∀ b k, b < 18 → rk_get h' b k = rk_get h b k) (hP : PR N ln cd h) : PR N ln cd h' := by
  obtain ⟨p1, p2, p3⟩ := hP
  refine ⟨by rw [gi_eq (he 2 5 (by omega))]; exact p1, p2, fun r hr => ?_⟩
  obtain ⟨q1, q2, q3⟩ := p3 r hr
  refine ⟨by rw [gi_eq (he 14 r (by omega))]; exact q1, q2, fun i hi => ?_⟩
  rw [gi_eq (he (4 + r) i (by omega))]
  exact q3 i hi
theorem PR_b {N : Nat} {ln : Nat → Nat} {cd : Nat → Nat → Int} {h : rk_S} (hP : PR N ln cd h) : ∀ r, r < N → ln r ≤ 40 ∧ ∀ i, i < ln r → okc (cd r i) := fun r hr => ⟨(hP.2.2 r hr).2.1, fun i hi => ((hP.2.2 r hr).2.2 i hi).2⟩
/-- kept ones neither act nor draw -/
def KO (N : Nat) (P : Nat → Prop) (h : rk_S) : Prop := ∀ r, r < N → bt (gi h 118 4) r = true → P r
/-- what a call leaves as it was -/
def ufr (f : Nat) (h h' : rk_S) : Prop := ∀ b k, b < 18 ∨ 156 ≤ b ∨ (119 ≤ b ∧ b < f) ∨ (b = 118 ∧ (k ≤ 4 ∨ 9 ≤ k)) → rk_get h' b k = rk_get h b k
theorem ufr_refl {f : Nat} {h : rk_S} : ufr f h h := fun _ _ _ => rfl
theorem ufr_trans {f : Nat} {h h1 h2 : rk_S} (a : ufr f h h1) (b : ufr f h1 h2) : ufr f h h2 := fun c k z => (b c k z).trans (a c k z)
theorem KO_ufr {N : Nat} {P : Nat → Prop} {f : Nat} {h h' : rk_S} (hu : ufr f h h') (hK : KO N P h) : KO N P h' := fun r hr hb => hK r hr (by rw [gi_eq (hu 118 4 (by omega))] at hb; exact hb)
theorem PR_ufr {N : Nat} {ln : Nat → Nat} {cd : Nat → Nat → Int} {f : Nat} {h h' : rk_S} (hu : ufr f h h') (hK : PR N ln cd h) : PR N ln cd h' := PR_eq (fun b k hb => hu b k (by omega)) hK
/-- what an entered call comes to -/
def ENo (N : Nat) (ln : Nat → Nat) (cd : Nat → Nat → Int) (f : Nat) (h h' : rk_S) (y : Int32) (q : eO) : Prop := y.toInt = q.1 ∧ gi h' f 6 = q.2.1 ∧ WD h' q.2.2.1 q.2.2.2.1 ∧ (gi h' 118 5).toInt = q.2.2.2.2.1 ∧ (∀ b, bt (gi h' f 4) b = q.2.2.2.2.2.1 b) ∧ (gi h' f 5).toInt = q.2.2.2.2.2.2.1 ∧ yG h' ∧ SV N ln cd h' ∧ ufr f h h'
def ENp (N : Nat) (ln : Nat → Nat) (cd : Nat → Nat → Int) (P : Nat → Prop) (n : Nat) : Prop := ∀ (d : Nat) (h : rk_S) (o : Option Value × rk_S) (r t : Int32) (rn dp st : Nat) (a S : eS) (L : Int32), yG h → PR N ln cd h → KO N P h → SV N ln cd h → 1 ≤ dp → dp ≤ 12 → t.toInt = dp → r.toInt = rn → rn < N → FRw h (117 + 3 * dp) 0 e0 → FRd h (117 + 3 * dp) a eNo eNo 0 → gi h (117 + 3 * dp) 6 = 0 → WD h S L → (gi h 118 5).toInt = st → st ≤ 2000 → rk_ex n d rm_X2_enter 0 [(0, .ref 118), (1, .int r), (2, .ref (117 + 3 * dp)), (3, .int t)] [] h = some o → ∃ h' y, o = (some (.int y), h') ∧ ENo N ln cd (117 + 3 * dp) h h' y (EV false N ln cd (12 - dp) rn a S L st)
def PFo (N : Nat) (ln : Nat → Nat) (cd : Nat → Nat → Int) (f : Nat) (a : eS) (h h' : rk_S) (y : Int32) (r : Nat × Nat × eT) : Prop := y.toInt = r.1 ∧ r.2.1 = 0 ∧ yG h' ∧ SV N ln cd h' ∧ (r.1 = 0 → FRw h' f r.2.2.1 r.2.2.2.1) ∧ FRd h' f a r.2.2.2.2.1 r.2.2.2.2.2.1 r.2.2.2.2.2.2.1 ∧ WD h' r.2.2.2.2.2.2.2.1 r.2.2.2.2.2.2.2.2.1 ∧ (gi h' 118 5).toInt = r.2.2.2.2.2.2.2.2.2 ∧ gi h' f 6 = gi h f 6 ∧ ufr f h h'
theorem SV_fr {N : Nat} {ln : Nat → Nat} {cd : Nat → Nat → Int} {h h' : rk_S} (he : ∀ b k, 20 ≤ b → b ≤ 117 → rk_get h' b k = rk_get h b k) (hS : SV N ln cd h) : SV N ln cd h' := SV_eq (fun b k hb => he b k (by omega) (by omega)) hS
theorem pfr_ufr {f : Nat} {h h' : rk_S} (hf : isFr f) (hp : pfr f h h') : ufr f h h' := fun b k hb => hp b k (by have := isFr_r hf; omega) (by have := isFr_r hf; omega)
section RKPF
variable {N : Nat} {ln : Nat → Nat} {cd : Nat → Nat → Int} {n d : Nat} {h : rk_S} {o : Option Value × rk_S} {f sz : Nat} {rw : eS} {a : eS} {nr sr : eB} {wi : Nat} {S : eS} {L : Int32} {st : Nat}
/-- only the row has changed -/
theorem PFo_p {h' : rk_S} {y : Int32} {e sz' : Nat} {rw' : eS} (hf : isFr f) (hG' : yG h') (hS : SV N ln cd h) (hD : FRd h f a nr sr wi) (hW : WD h S L) (hst : (gi h 118 5).toInt = st) (hp : pfr f h h') (hy : y.toInt = e) (hR : e = 0 → FRw h' f sz' rw') : PFo N ln cd f a h h' y (e, 0, sz', rw', nr, sr, wi, S, L, st) := by
  have fr := isFr_r hf
  exact ⟨hy, rfl, hG', SV_fr (fun b k h1 h2 => hp b k (by omega) (by omega)) hS, hR, FRd_pfr hp hD, WD_pfr hf hp hW, by rw [gi_eq (hp 118 5 (by omega) (by omega))]; exact hst, gi_eq (hp f 6 (by omega) (by omega)), pfr_ufr hf hp⟩
/-- nothing has changed, and the code was refused -/
theorem PFo_0 {y : Int32} {e : Nat} (hf : isFr f) (hG : yG h) (hS : SV N ln cd h) (hR : FRw h f sz rw) (hD : FRd h f a nr sr wi) (hW : WD h S L) (hst : (gi h 118 5).toInt = st) (hy : y.toInt = e) : PFo N ln cd f a h h y (e, 0, sz, rw, nr, sr, wi, S, L, st) := PFo_p hf hG hS hD hW hst (fun _ _ _ _ => rfl) hy (fun _ => hR)
theorem e3_0 (x y z : Int32) : e3 x y z 0 = x := rfl
theorem e3_1 (x y z : Int32) : e3 x y z 1 = y := rfl
theorem e3_2 (x y z : Int32) : e3 x y z 2 = z := rfl
/-- a begun frame -/
theorem beg_ok {g : Nat} {x y z : Int32} (hG : yG h) (hg : isFr g) (E : rk_ex n d rm_X0_begin 0 [(0, .ref g), (1, .int x), (2, .int y), (3, .int z)] [] h = some o) : ∃ h', o = (none, h') ∧ yG h' ∧ FRw h' g 0 e0 ∧ FRd h' g (e3 x y z) eNo eNo 0 ∧ gi h' g 6 = 0 ∧ ∀ b k, b ≠ g → b ≠ g + 1 → rk_get h' b k = rk_get h b k := by
  have fr := isFr_r hg
  obtain ⟨hG', rfl⟩ := yc_beg hG fr.1 fr.2 E
  have a0 := yE_fr1 hG hg (k := 0) (by decide)
  have a1 := yE_fr1 hG hg (k := 1) (by decide)
  have a2 := yE_fr1 hG hg (k := 2) (by decide)
  have b2 := yE_fr hG hg (k := 2) (by decide)
  have b3 := yE_fr hG hg (k := 3) (by decide)
  have b4 := yE_fr hG hg (k := 4) (by decide)
  have b5 := yE_fr hG hg (k := 5) (by decide)
  have b6 := yE_fr hG hg (k := 6) (by decide)
  refine ⟨_, rfl, hG', ⟨?_, by omega, fun i hi => by omega⟩, ⟨fun i hi => ?_, fun b => ?_, fun b => ?_, ?_⟩, ?_, fun b k z1 z2 => ?_⟩
  · rw [gi_y (by decide), gi_y (by decide), gi_y (by decide), gi_y (by decide), gi_s (yE_pt.mpr (yE_pt.mpr (yE_pt.mpr b2)))]
    rfl
  · rw [gi_x (by omega), gi_x (by omega), gi_x (by omega), gi_x (by omega), gi_x (by omega)]
    have hi : i = 0 ∨ i = 1 ∨ i = 2 := by omega
    rcases hi with rfl | rfl | rfl
    · rw [gi_y (by decide), gi_y (by decide), gi_s a0, e3_0]
    · rw [gi_y (by decide), gi_s (yE_pt.mpr a1), e3_1]
    · rw [gi_s (yE_pt.mpr (yE_pt.mpr a2)), e3_2]
  · rw [gi_y (by decide), gi_y (by decide), gi_y (by decide), gi_s (yE_pt.mpr (yE_pt.mpr (yE_pt.mpr (yE_pt.mpr b3)))), bt_zero]
    rfl
  · rw [gi_y (by decide), gi_y (by decide), gi_s (yE_pt.mpr (yE_pt.mpr (yE_pt.mpr (yE_pt.mpr (yE_pt.mpr b4))))), bt_zero]
    rfl
  · rw [gi_y (by decide), gi_s (yE_pt.mpr (yE_pt.mpr (yE_pt.mpr (yE_pt.mpr (yE_pt.mpr (yE_pt.mpr b5))))))]
    rfl
  · rw [gi_s (yE_pt.mpr (yE_pt.mpr (yE_pt.mpr (yE_pt.mpr (yE_pt.mpr (yE_pt.mpr (yE_pt.mpr b6)))))))]
  · rw [rk_get_ne (Or.inl (Ne.symm z1)), rk_get_ne (Or.inl (Ne.symm z1)), rk_get_ne (Or.inl (Ne.symm z1)), rk_get_ne (Or.inl (Ne.symm z1)), rk_get_ne (Or.inl (Ne.symm z1)), rk_get_ne (Or.inl (Ne.symm z2)), rk_get_ne (Or.inl (Ne.symm z2)), rk_get_ne (Or.inl (Ne.symm z2))]
/-- the caller takes over what the called read, and how deep it went -/
theorem join_ok {g wi' : Nat} {sr' : eB} (hG : yG h) (hf : isFr f) (hg : isFr g) (hfg : f + 3 ≤ g) (hD : FRd h f a nr sr wi) (h4 : ∀ b, bt (gi h g 4) b = sr' b) (h5 : (gi h g 5).toInt = wi') (hw' : wi' ≤ 12) (E : rk_ex n d rm_X0_joinCalled 0 [(0, .ref f), (1, .ref g)] [] h = some o) : ∃ h', o = (none, h') ∧ yG h' ∧ FRd h' f a nr (eor sr sr') (max wi (wi' + 1)) ∧ ∀ b k, ¬ (b = f ∧ (k = 4 ∨ k = 5)) → rk_get h' b k = rk_get h b k := by
  have fr := isFr_r hf
  have gr := isFr_r hg
  obtain ⟨d1, d2, d3, d4⟩ := hD
  have b4 := yE_fr hG hf (k := 4) (by decide)
  have b5 := yE_fr hG hf (k := 5) (by decide)
  have eb : ∀ b, bt ((gi h f 4) ||| (gi h g 4)) b = eor sr sr' b := fun b => by
    rw [bt_or, d3 b, h4 b]
    rfl
  rcases yc_join hG fr.1 fr.2 gr.1 gr.2 hfg E with ⟨c1, hG', rfl⟩ | ⟨c1, hG', rfl⟩
  · refine ⟨_, rfl, hG', ⟨fun i hi => ?_, fun b => ?_, fun b => ?_, ?_⟩, fun b k z => rk_get_ne (by omega)⟩
    · rw [gi_x (by omega)]; exact d1 i hi
    · rw [gi_y (by decide)]; exact d2 b
    · rw [gi_s b4]; exact eb b
    · rw [gi_y (by decide), d4]
      omega
  · refine ⟨_, rfl, hG', ⟨fun i hi => ?_, fun b => ?_, fun b => ?_, ?_⟩, fun b k z => (rk_get_ne (by omega)).trans (rk_get_ne (by omega))⟩
    · rw [gi_x (by omega), gi_x (by omega)]; exact d1 i hi
    · rw [gi_y (by decide), gi_y (by decide)]; exact d2 b
    · rw [gi_y (by decide), gi_s b4]; exact eb b
    · rw [gi_s (yE_pt.mpr b5), y_inc h5 (by omega)]
      omega
theorem cr_ok {P : Nat → Prop} {x t : Int32} {rn dp : Nat} (hEn : ∀ m, m < n → ENp N ln cd P m) (hG : yG h) (hP : PR N ln cd h) (hK : KO N P h) (hS : SV N ln cd h) (hd1 : 1 ≤ dp) (hd2 : dp ≤ 12) (ht : t.toInt = dp) (hx : x.toInt = rn) (hrn : rn < 10) (hR : FRw h (117 + 3 * dp) sz rw) (hD : FRd h (117 + 3 * dp) a nr sr wi) (hW : WD h S L) (hst : (gi h 118 5).toInt = st) (hst2 : st ≤ 2000) (E : rk_ex n d rm_X2_callRoutine 0 [(0, .ref 118), (1, .int x), (2, .ref (117 + 3 * dp)), (3, .int t)] [] h = some o) : ∃ h' y, o = (some (.int y), h') ∧ PFo N ln cd (117 + 3 * dp) a h h' y (cst false N (EVe false N ln cd (12 - dp)) a (400 + (rn : Int)) sz rw nr sr wi S L st) := by
  have hf : isFr (117 + 3 * dp) := ⟨dp - 1, by omega, by omega⟩
  have fr := isFr_r hf
  have r1 := hR.1
  have p1 := hP.1
  have hc0 : (400 + (rn : Int) - 400).toNat = rn := by omega
  unfold cst
  rw [if_neg (by omega), if_neg (by omega), if_neg (by omega), if_neg (by omega), if_pos (by omega), hc0]
  rcases yc_cr hG fr.1 fr.2 (by omega) (by omega) E with ⟨c1, c2, -, rfl⟩ | ⟨c1, c2, c3, m, hm, -, E1⟩ | ⟨c1, c2, c3, -, rfl⟩ | ⟨c1, -, rfl⟩
  · rw [if_neg (by omega), if_pos (by omega)]
    exact ⟨h, _, rfl, PFo_0 hf hG hS hR hD hW hst rfl⟩
  · rw [if_neg (by omega), if_neg (by omega)]
    rw [y_ix ht] at E1
    obtain ⟨g, hgq⟩ : ∃ g, g = 120 + 3 * dp := ⟨_, rfl⟩
    rw [← hgq] at E1
    have hg : isFr g := ⟨dp, by omega, hgq⟩
    have hgr := isFr_r hg
    -- the three numbers
    obtain ⟨m1, d1, o1, hm1, E2, E3⟩ := E_call (ar := ([.ref (117 + 3 * dp)], [])) rfl rfl rfl rfl rfl rfl E1
    obtain ⟨h1, rfl, hG1, hR1, hp1⟩ := take_ok hG hf hR (by omega) E2
    obtain ⟨m2, hm2, -, E4⟩ := yc_cr1 hG1 E3
    obtain ⟨m3, d3, o3, hm3, E5, E6⟩ := E_call (ar := ([.ref (117 + 3 * dp)], [])) rfl rfl rfl rfl rfl rfl E4
    obtain ⟨h2, rfl, hG2, hR2, hp2⟩ := take_ok hG1 hf hR1 (by omega) E5
    obtain ⟨m4, hm4, -, E7⟩ := yc_cr2 hG2 E6
    obtain ⟨m5, d5, o5, hm5, E8, E9⟩ := E_call (ar := ([.ref (117 + 3 * dp)], [])) rfl rfl rfl rfl rfl rfl E7
    obtain ⟨h3, rfl, hG3, hR3, hp3⟩ := take_ok hG2 hf hR2 (by omega) E8
    have hp := pfr_trans (pfr_trans hp1 hp2) hp3
    rw [show sz - 1 - 1 = sz - 2 by omega] at hR2 hR3 E9
    rw [show sz - 2 - 1 = sz - 3 by omega] at hR3 E9
    obtain ⟨m6, hm6, -, E10⟩ := yc_cr3 hG3 E9
    obtain ⟨m7, d7, o7, hm7, E11, E12⟩ := E_call (ar := ([.ref g, .int (rw (sz - 3)), .int (rw (sz - 2)), .int (rw (sz - 1))], [])) rfl rfl rfl rfl rfl rfl E10
    obtain ⟨h4, rfl, hG4, hRg, hDg, hg6, hp4⟩ := beg_ok hG3 hg E11
    obtain ⟨m8, hm8, -, E13⟩ := yc_cr4 hG4 E12
    obtain ⟨m9, d9, o9, hm9, E14, E15⟩ := E_call (ar := ([.ref 118, .int x, .ref g, .int (t + (1 : Int32))], [])) rfl rfl rfl rfl rfl rfl E13
    have u4 : ∀ b k, b ≠ 117 + 3 * dp → b ≠ 117 + 3 * dp + 2 → b ≠ g → b ≠ g + 1 → rk_get h4 b k = rk_get h b k := fun b k z1 z2 z3 z4 => (hp4 b k z3 z4).trans (hp b k (fun z => z1 z.1) z2)
    have hP4 : PR N ln cd h4 := PR_eq (fun b k hb => u4 b k (by omega) (by omega) (by omega) (by omega)) hP
    have hK4 : KO N P h4 := fun r hr hb => hK r hr (by rw [gi_eq (u4 118 4 (by omega) (by omega) (by omega) (by omega))] at hb; exact hb)
    have hS4 : SV N ln cd h4 := SV_fr (fun b k z1 z2 => u4 b k (by omega) (by omega) (by omega) (by omega)) hS
    have hW4 : WD h4 S L := WD_eq (fun b k hb => u4 b k (by omega) (by omega) (by omega) (by omega)) hW
    have hst4 : (gi h4 118 5).toInt = st := by rw [gi_eq (u4 118 5 (by omega) (by omega) (by omega) (by omega))]; exact hst
    have hgq2 : g = 117 + 3 * (dp + 1) := by omega
    rw [hgq2] at hRg hDg hg6 E14
    obtain ⟨h5, y, rfl, en⟩ := hEn m9 (by omega) d9 h4 o9 x (t + 1) rn (dp + 1) st (e3 (rw (sz - 3)) (rw (sz - 2)) (rw (sz - 1))) S L hG4 hP4 hK4 hS4 (by omega) (by omega) (y_inc ht (by omega)) hx (by omega) hRg hDg hg6 hW4 hst4 hst2 E14
    rw [← hgq2] at en
    rw [show 12 - dp = (12 - (dp + 1)) + 1 by omega]
    unfold EVe
    dsimp only
    cases hq : EV false N ln cd (12 - (dp + 1)) rn (e3 (rw (sz - 3)) (rw (sz - 2)) (rw (sz - 1))) S L st with
    | mk e q =>
      obtain ⟨v, S', L', st', sr', wi', nr'⟩ := q
      rw [hq] at en
      obtain ⟨n1, n2, n3, n4, n5, n6, n7, n8, n9⟩ := en
      dsimp only at n1 n2 n3 n4 n5 n6 ⊢
      obtain ⟨b1, b2, b3, b4, b5, b6, b7⟩ := EV_b (PR_b hP) _ _ (by omega) _ _ _ _ _ _ _ _ _ _ _ _ hq hst2
      have u5 : ∀ b k, 117 + 3 * dp ≤ b → b ≤ 117 + 3 * dp + 2 → rk_get h5 b k = rk_get h3 b k := fun b k z1 z2 => (n9 b k (by omega)).trans (hp4 b k (by omega) (by omega))
      have hD5 : FRd h5 (117 + 3 * dp) a nr sr wi := by
        obtain ⟨x1, x2, x3, x4⟩ := FRd_pfr hp hD
        exact ⟨fun i hi => by rw [gi_eq (u5 _ _ (by omega) (by omega))]; exact x1 i hi, fun b => by rw [gi_eq (u5 _ _ (by omega) (by omega))]; exact x2 b, fun b => by rw [gi_eq (u5 _ _ (by omega) (by omega))]; exact x3 b, by rw [gi_eq (u5 _ _ (by omega) (by omega))]; exact x4⟩
      obtain ⟨m10, hm10, -, E16⟩ := yc_cr5 n7 E15
      obtain ⟨m11, d11, o11, hm11, E17, E18⟩ := E_call (ar := ([.ref (117 + 3 * dp), .ref g], [])) rfl rfl rfl rfl rfl rfl E16
      obtain ⟨h6, rfl, hG6, hD6, hp6⟩ := join_ok n7 hf hg (by omega) hD5 n5 n6 (by omega) E17
      have hR6 : FRw h6 (117 + 3 * dp) (sz - 3) rw := by
        obtain ⟨x1, x2, x3⟩ := hR3
        exact ⟨by rw [gi_eq (hp6 _ _ (by omega)), gi_eq (u5 _ _ (by omega) (by omega))]; exact x1, x2, fun i hi => by rw [gi_eq (hp6 _ _ (by omega)), gi_eq (u5 _ _ (by omega) (by omega))]; exact x3 i hi⟩
      have hS6 : SV N ln cd h6 := SV_fr (fun b k z1 z2 => hp6 b k (by omega)) n8
      have hW6 : WD h6 S' L' := WD_eq (fun b k hb => hp6 b k (by omega)) n3
      have hst6 : (gi h6 118 5).toInt = st' := by rw [gi_eq (hp6 _ _ (by omega))]; exact n4
      have hf6 : gi h6 (117 + 3 * dp) 6 = gi h (117 + 3 * dp) 6 := by rw [gi_eq (hp6 _ _ (by omega)), gi_eq (u5 _ _ (by omega) (by omega)), gi_eq (hp _ _ (by omega) (by omega))]
      have hu6 : ufr (117 + 3 * dp) h h6 := fun b k hb => (hp6 b k (by omega)).trans ((n9 b k (by omega)).trans (u4 b k (by omega) (by omega) (by omega) (by omega)))
      rcases yc_cr6 hG6 E18 with ⟨c4, -, rfl⟩ | ⟨c4, m12, hm12, -, E19⟩
      · exact ⟨h6, y, rfl, n1, rfl, hG6, hS6, fun z => by omega, hD6, hW6, hst6, hf6, hu6⟩
      · obtain ⟨m13, d13, o13, hm13, E20, E21⟩ := E_call (ar := ([.ref (117 + 3 * dp), .int (gi h6 g 6)], [])) rfl rfl rfl rfl rfl rfl E19
        rw [gi_eq (hp6 g 6 (by omega)), n2] at E20
        rcases put_ok hG6 hf hR6 E20 with ⟨p1, h7, rfl, hG7, hR7, hp7⟩ | ⟨p1, -⟩
        · obtain ⟨-, rfl⟩ := yc_cr7 hG7 E21
          have hz : e = 0 := by omega
          subst hz
          obtain ⟨z1, z2, z3, z4, z5, z6, z7, z8, z9, z10⟩ := PFo_p (y := 0) (e := 0) (sz' := sz - 2) (rw' := eup rw (sz - 3) v) hf hG7 hS6 hD6 hW6 hst6 hp7 rfl (fun _ => by rw [show sz - 2 = sz - 3 + 1 by omega]; exact hR7)
          exact ⟨h7, _, rfl, z1, z2, z3, z4, z5, z6, z7, z8, z9.trans hf6, ufr_trans hu6 z10⟩
        · have := hR.2.1
          omega
  · rw [if_neg (by omega), if_neg (by omega), show 12 - dp = 0 by omega]
    exact ⟨h, _, rfl, PFo_0 hf hG hS hR hD hW hst rfl⟩
  · rw [if_pos (by omega)]
    exact ⟨h, _, rfl, PFo_0 hf hG hS hR hD hW hst rfl⟩
end RKPF
