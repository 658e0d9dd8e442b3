/-! the class's perform, walk, enter, start: a run comes to what the document says, whatever is kept -/
section RKWK
variable {N : Nat} {ln : Nat → Nat} {cd : Nat → Nat → Int} {P : Nat → Prop}
theorem pf_ok {n d : Nat} {h : rk_S} {o : Option Value × rk_S} {sz dp : Nat} {rw a : eS} {nr sr : eB} {wi : Nat} {S : eS} {L : Int32} {st : Nat} {c t : Int32} (hEn : ∀ m, m < n → ENp N ln cd P m) (hG : yG h) (hP : PR N ln cd h) (hK : KO N P h) (hS : SV N ln cd h) (hd1 : 1 ≤ dp) (hd2 : dp ≤ 12) (ht : t.toInt = dp) (hc : okc c.toInt) (hc6 : c.toInt < 600) (hR : FRw h (117 + 3 * dp) sz rw) (hD : FRd h (117 + 3 * dp) a nr sr wi) (hW : WD h S L) (hst : (gi h 118 5).toInt = st) (hst2 : st ≤ 2000) (E : rk_ex n d rm_X2_perform 0 [(0, .ref 118), (1, .int c), (2, .ref (117 + 3 * dp)), (3, .int t)] [] h = some o) : ∃ h' y, o = (some (.int y), h') ∧ PFo N ln cd (117 + 3 * dp) a h h' y (cst false N (EVe false N ln cd (12 - dp)) a c.toInt sz rw nr sr wi S L st) := by
  have hf : isFr (117 + 3 * dp) := ⟨dp - 1, by omega, by omega⟩
  have fr := isFr_r hf
  obtain ⟨c0, c1, c2, c3, c4, c5, c6, c7⟩ := hc
  obtain ⟨e1, e2⟩ := y_dv c0
  obtain ⟨x, hx⟩ : ∃ x, x = c - c / (100 : Int32) * (100 : Int32) := ⟨_, rfl⟩
  have A := yc_pf hG fr.1 fr.2 E
  rw [← hx] at A e2
  rw [e1, e2] at A
  generalize hcz : c.toInt = cz at *
  rcases A with ⟨z1, -⟩ | ⟨z1, -⟩ | ⟨z1, z2, m, hm, -, E1⟩ | ⟨z1, z2, m, hm, -, E1⟩ | ⟨z1, m, hm, -, E1⟩ | ⟨z1, m, hm, -, E1⟩ | ⟨z1, m, hm, -, E1⟩ | ⟨z1, m, hm, -, E1⟩ | ⟨z1, m, hm, -, E1⟩
  · omega
  · omega
  · -- 506, 507, 508
    obtain ⟨m1, d1, o1, hm1, E2, E3⟩ := E_call (ar := ([.ref 118, .int x, .ref (117 + 3 * dp)], [])) rfl rfl rfl rfl rfl rfl E1
    unfold cst
    rw [if_neg (by omega), if_neg (by omega), if_neg (by omega), if_neg (by omega), if_neg (by omega), if_neg (by omega)]
    rcases ce_ok hG hf hR hW (by omega) E2 with ⟨q, ⟨s1, rfl⟩ | ⟨s1, h', rfl, g1, g2, g3⟩⟩ | ⟨q, ⟨s1, rfl⟩ | ⟨s1, s2, rfl⟩ | ⟨s1, s2, h', rfl, g1, g2, g3⟩⟩ | ⟨q, ⟨s1, rfl⟩ | ⟨s1, h', rfl, g1, g2, g3, g4⟩⟩
    · obtain ⟨-, rfl⟩ := yc_pf_108 hG fr.1 fr.2 E3
      rw [if_pos (by omega), if_pos (by omega)]
      exact ⟨h, _, rfl, PFo_0 hf hG hS hR hD hW hst rfl⟩
    · obtain ⟨-, rfl⟩ := yc_pf_108 g1 fr.1 fr.2 E3
      rw [if_pos (by omega), if_neg (by omega)]
      exact ⟨h', _, rfl, PFo_p hf g1 hS hD hW hst g3 rfl (fun _ => g2)⟩
    · obtain ⟨-, rfl⟩ := yc_pf_108 hG fr.1 fr.2 E3
      rw [if_neg (by omega), if_pos (by omega), if_pos (by omega)]
      exact ⟨h, _, rfl, PFo_0 hf hG hS hR hD hW hst rfl⟩
    · obtain ⟨-, rfl⟩ := yc_pf_108 hG fr.1 fr.2 E3
      rw [if_neg (by omega), if_pos (by omega), if_neg (by omega), if_neg (by omega)]
      exact ⟨h, _, rfl, PFo_0 hf hG hS hR hD hW hst rfl⟩
    · obtain ⟨-, rfl⟩ := yc_pf_108 g1 fr.1 fr.2 E3
      rw [if_neg (by omega), if_pos (by omega), if_neg (by omega), if_pos (by omega)]
      exact ⟨h', _, rfl, PFo_p hf g1 hS hD hW hst g3 rfl (fun _ => g2)⟩
    · obtain ⟨-, rfl⟩ := yc_pf_108 hG fr.1 fr.2 E3
      rw [if_neg (by omega), if_neg (by omega), if_pos (by omega), if_neg (by omega)]
      exact ⟨h, _, rfl, PFo_0 hf hG hS hR hD hW hst rfl⟩
    · obtain ⟨-, rfl⟩ := yc_pf_108 g1 fr.1 fr.2 E3
      rw [if_neg (by omega), if_neg (by omega), if_pos (by omega), if_pos (by omega)]
      refine ⟨h', _, rfl, rfl, rfl, g1, SV_fr (fun b k h1 h2 => g4 b k (by omega) (by omega) (by omega)) hS, fun _ => g2, ?_, g3, ?_, gi_eq (g4 _ _ (by omega) (by omega) (by omega)), fun b k hb => g4 b k (by omega) (by omega) (by omega)⟩
      · obtain ⟨x1, x2, x3, x4⟩ := hD
        exact ⟨fun i hi => by rw [gi_eq (g4 _ _ (by omega) (by omega) (by omega))]; exact x1 i hi, fun b => by rw [gi_eq (g4 _ _ (by omega) (by omega) (by omega))]; exact x2 b, fun b => by rw [gi_eq (g4 _ _ (by omega) (by omega) (by omega))]; exact x3 b, by rw [gi_eq (g4 _ _ (by omega) (by omega) (by omega))]; exact x4⟩
      · rw [gi_eq (g4 118 5 (by omega) (by omega) (by omega))]
        exact hst
  · -- 500 .. 505
    obtain ⟨m1, d1, o1, hm1, E2, E3⟩ := E_call (ar := ([.ref 118, .int x, .ref (117 + 3 * dp)], [])) rfl rfl rfl rfl rfl rfl E1
    unfold cst
    rw [if_neg (by omega), if_neg (by omega), if_neg (by omega), if_neg (by omega), if_neg (by omega), if_pos (by omega)]
    rcases cb_ok (cz := cz) hG hf hR (by omega) (by omega) (by omega) E2 with ⟨s1, rfl⟩ | ⟨s1, s2, h', rfl, g1, g2⟩ | ⟨s1, s2, h', rfl, g1, g2, g3⟩
    · obtain ⟨-, rfl⟩ := yc_pf_98 hG fr.1 fr.2 E3
      rw [if_pos s1]
      exact ⟨h, _, rfl, PFo_0 hf hG hS hR hD hW hst rfl⟩
    · obtain ⟨-, rfl⟩ := yc_pf_98 g1 fr.1 fr.2 E3
      rw [if_neg s1, if_pos s2]
      exact ⟨h', _, rfl, PFo_p hf g1 hS hD hW hst g2 rfl (fun z => by cases z)⟩
    · obtain ⟨-, rfl⟩ := yc_pf_98 g1 fr.1 fr.2 E3
      rw [if_neg s1, if_neg s2]
      exact ⟨h', _, rfl, PFo_p hf g1 hS hD hW hst g3 rfl (fun _ => g2)⟩
  · -- constants
    obtain ⟨m1, d1, o1, hm1, E2, E3⟩ := E_call (ar := ([.ref (117 + 3 * dp), .int x], [])) rfl rfl rfl rfl rfl rfl E1
    have ex : Int32.ofInt cz = x := by
      rw [show cz = x.toInt by omega, Int32.ofInt_toInt]
    unfold cst
    rw [if_pos (by omega), ex]
    rcases put_ok hG hf hR E2 with ⟨s1, h', rfl, g1, g2, g3⟩ | ⟨s1, rfl⟩
    · obtain ⟨-, rfl⟩ := yc_pf_50 g1 fr.1 fr.2 E3
      rw [if_pos s1]
      exact ⟨h', _, rfl, PFo_p hf g1 hS hD hW hst g3 rfl (fun _ => g2)⟩
    · obtain ⟨-, rfl⟩ := yc_pf_50 hG fr.1 fr.2 E3
      rw [if_neg s1]
      exact ⟨h, _, rfl, PFo_0 hf hG hS hR hD hW hst rfl⟩
  · -- numbers
    obtain ⟨m1, d1, o1, hm1, E2, E3⟩ := E_call (ar := ([.ref 118, .int x, .ref (117 + 3 * dp)], [])) rfl rfl rfl rfl rfl rfl E1
    unfold cst
    rw [if_neg (by omega), if_pos (by omega)]
    rcases rn_ok (i := (cz - 100).toNat) hG hf hR hD (by omega) (by omega) E2 with ⟨s1, h', rfl, g1, g2, g3, g4⟩ | ⟨s1, rfl⟩
    · obtain ⟨-, rfl⟩ := yc_pf_58 g1 fr.1 fr.2 E3
      rw [if_pos s1]
      exact ⟨h', _, rfl, rfl, rfl, g1, SV_fr (fun b k h1 h2 => g4 b k (by omega) (by omega)) hS, fun _ => g2, g3, WD_eq (fun b k hb => g4 b k (by omega) (by omega)) hW, by rw [gi_eq (g4 118 5 (by omega) (by omega))]; exact hst, gi_eq (g4 _ _ (by omega) (by omega)), fun b k hb => g4 b k (by omega) (by omega)⟩
    · obtain ⟨-, rfl⟩ := yc_pf_58 hG fr.1 fr.2 E3
      rw [if_neg s1]
      exact ⟨h, _, rfl, PFo_0 hf hG hS hR hD hW hst rfl⟩
  · -- loads
    obtain ⟨m1, d1, o1, hm1, E2, E3⟩ := E_call (ar := ([.ref 118, .int x, .ref (117 + 3 * dp)], [])) rfl rfl rfl rfl rfl rfl E1
    unfold cst
    rw [if_neg (by omega), if_neg (by omega), if_pos (by omega)]
    rcases rs_ok (i := (cz - 200).toNat) hG hf hR hD hW (by omega) (by omega) E2 with ⟨s1, h', rfl, g1, g2, g3, g4⟩ | ⟨s1, rfl⟩
    · obtain ⟨-, rfl⟩ := yc_pf_66 g1 fr.1 fr.2 E3
      rw [if_pos s1]
      exact ⟨h', _, rfl, rfl, rfl, g1, SV_fr (fun b k h1 h2 => g4 b k (by omega) (by omega)) hS, fun _ => g2, g3, WD_eq (fun b k hb => g4 b k (by omega) (by omega)) hW, by rw [gi_eq (g4 118 5 (by omega) (by omega))]; exact hst, gi_eq (g4 _ _ (by omega) (by omega)), fun b k hb => g4 b k (by omega) (by omega)⟩
    · obtain ⟨-, rfl⟩ := yc_pf_66 hG fr.1 fr.2 E3
      rw [if_neg s1]
      exact ⟨h, _, rfl, PFo_0 hf hG hS hR hD hW hst rfl⟩
  · -- saves
    obtain ⟨m1, d1, o1, hm1, E2, E3⟩ := E_call (ar := ([.ref 118, .int x, .ref (117 + 3 * dp)], [])) rfl rfl rfl rfl rfl rfl E1
    unfold cst
    rw [if_neg (by omega), if_neg (by omega), if_neg (by omega), if_pos (by omega)]
    rcases ws_ok (i := (cz - 300).toNat) hG hf hR hW (by omega) (by omega) E2 with ⟨s1, h', rfl, g1, g2, g3, g4⟩ | ⟨s1, rfl⟩
    · obtain ⟨-, rfl⟩ := yc_pf_74 g1 fr.1 fr.2 E3
      rw [if_neg (by omega)]
      refine ⟨h', _, rfl, rfl, rfl, g1, SV_fr (fun b k h1 h2 => g4 b k (by omega) (by omega) (by omega)) hS, fun _ => g2, ?_, g3, ?_, gi_eq (g4 _ _ (by omega) (by omega) (by omega)), fun b k hb => g4 b k (by omega) (by omega) (by omega)⟩
      · obtain ⟨x1, x2, x3, x4⟩ := hD
        exact ⟨fun i hi => by rw [gi_eq (g4 _ _ (by omega) (by omega) (by omega))]; exact x1 i hi, fun b => by rw [gi_eq (g4 _ _ (by omega) (by omega) (by omega))]; exact x2 b, fun b => by rw [gi_eq (g4 _ _ (by omega) (by omega) (by omega))]; exact x3 b, by rw [gi_eq (g4 _ _ (by omega) (by omega) (by omega))]; exact x4⟩
      · rw [gi_eq (g4 118 5 (by omega) (by omega) (by omega))]
        exact hst
    · obtain ⟨-, rfl⟩ := yc_pf_74 hG fr.1 fr.2 E3
      rw [if_pos (by omega)]
      exact ⟨h, _, rfl, PFo_0 hf hG hS hR hD hW hst rfl⟩
  · -- calls
    obtain ⟨m1, d1, o1, hm1, E2, E3⟩ := E_call (ar := ([.ref 118, .int x, .ref (117 + 3 * dp), .int t], [])) rfl rfl rfl rfl rfl rfl E1
    obtain ⟨h', y, rfl, g⟩ := cr_ok (rn := (cz - 400).toNat) (fun m2 h2 => hEn m2 (by omega)) hG hP hK hS hd1 hd2 ht (by omega) (by omega) hR hD hW hst hst2 E2
    obtain ⟨-, rfl⟩ := yc_pf_83 g.2.2.1 fr.1 fr.2 E3
    rw [show 400 + (((cz - 400).toNat : Nat) : Int) = cz by omega] at g
    exact ⟨h', y, rfl, g⟩
/-- what a walk comes to -/
def WKo (N : Nat) (ln : Nat → Nat) (cd : Nat → Nat → Int) (f : Nat) (a : eS) (h h' : rk_S) (y : Int32) (q : Nat × Int32 × eT) : Prop := y.toInt = q.1 ∧ (gi h' f 6 = if q.1 = 0 then q.2.1 else gi h f 6) ∧ FRd h' f a q.2.2.2.2.1 q.2.2.2.2.2.1 q.2.2.2.2.2.2.1 ∧ WD h' q.2.2.2.2.2.2.2.1 q.2.2.2.2.2.2.2.2.1 ∧ (gi h' 118 5).toInt = q.2.2.2.2.2.2.2.2.2 ∧ yG h' ∧ SV N ln cd h' ∧ ufr f h h'
theorem wk_loop {n0 : Nat} (hEn : ∀ m, m < n0 → ENp N ln cd P m) {dp rn : Nat} {t r : Int32} {a : eS} (hd1 : 1 ≤ dp) (hd2 : dp ≤ 12) (ht : t.toInt = dp) (hr : r.toInt = rn) (hrn : rn < N) : ∀ (n d : Nat) (h : rk_S) (o : Option Value × rk_S) (p c e : Int32) (fu pn sz : Nat) (rw : eS) (nr sr : eB) (wi : Nat) (S : eS) (L : Int32) (st : Nat), n ≤ n0 → yG h → PR N ln cd h → KO N P h → SV N ln cd h → p.toInt = pn → pn ≤ 100 → 0 < fu → ln rn < fu + pn → FRw h (117 + 3 * dp) sz rw → FRd h (117 + 3 * dp) a nr sr wi → WD h S L → (gi h 118 5).toInt = st → st ≤ 2000 → wi ≤ 12 - dp → (∀ b, nr b = true → b < 3) → (∀ b, sr b = true → b < 16) → rk_ex n d rm_X2_walk 13 [(0, .ref 118), (1, .int r), (2, .ref (117 + 3 * dp)), (3, .int t), (4, .int (gi h 14 r.toNatClampNeg)), (5, .int p), (6, .int c), (7, .int e)] [] h = some o → ∃ h' y, o = (some (.int y), h') ∧ WKo N ln cd (117 + 3 * dp) a h h' y (wlk false N (EVe false N ln cd (12 - dp)) a (ln rn) (cd rn) fu pn (sz, rw, nr, sr, wi, S, L, st)) := by
  have hf : isFr (117 + 3 * dp) := ⟨dp - 1, by omega, by omega⟩
  have fr := isFr_r hf
  have er := y_ix hr
  intro n
  induction n using Nat.strongRecOn with
  | ind n ih =>
    intro d h o p c e fu pn sz rw nr sr wi S L st hn hG hP hK hS hp hpn hfu hfu2 hR hD hW hst hst2 hwi hnr hsr E
    have ep := y_ix hp
    obtain ⟨p1, p2, p3⟩ := hP
    obtain ⟨l1, l2, l3⟩ := p3 rn hrn
    have A := yc_wk hG fr.1 fr.2 (by omega) (by omega) (by omega) (by omega) E
    rw [er, ep] at A
    obtain ⟨fu, rfl⟩ : ∃ k, fu = k + 1 := ⟨fu - 1, by omega⟩
    rw [wlk]
    have e118 : ∀ k, k < 12 → yE 118 k h := fun k hk => hG.yE (by decide) (by decide) (by rw [yln_sh.2.2]; exact hk)
    -- a step is counted
    obtain ⟨H, hH⟩ : ∃ H, H = rk_pt (rk_pt h 118 5 (.int ((gi h 118 5) + (1 : Int32)))) 118 6 (.int ((gi h 118 6) + (1 : Int32))) := ⟨_, rfl⟩
    rw [← hH] at A
    have fH : ∀ b k, ¬ (b = 118 ∧ (k = 5 ∨ k = 6)) → rk_get H b k = rk_get h b k := fun b k z => by
      rw [hH]
      exact (rk_get_ne (by omega)).trans (rk_get_ne (by omega))
    have sH : st < 2000 → (gi H 118 5).toInt = ((st + 1 : Nat) : Int) := fun z => by
      rw [hH, gi_y (by decide), gi_s (e118 5 (by decide)), y_inc hst (by omega)]
    have hPH : PR N ln cd H := PR_eq (fun b k hb => fH b k (by omega)) ⟨p1, p2, p3⟩
    have hKH : KO N P H := fun r hr hb => hK r hr (by rw [gi_eq (fH 118 4 (by omega))] at hb; exact hb)
    have hSH : SV N ln cd H := SV_fr (fun b k z1 z2 => fH b k (by omega)) hS
    have hWH : WD H S L := WD_eq (fun b k hb => fH b k (by omega)) hW
    have hRH : FRw H (117 + 3 * dp) sz rw := ⟨by rw [gi_eq (fH _ _ (by omega))]; exact hR.1, hR.2.1, fun i hi => by rw [gi_eq (fH _ _ (by omega))]; exact hR.2.2 i hi⟩
    have hDH : FRd H (117 + 3 * dp) a nr sr wi := by
      obtain ⟨x1, x2, x3, x4⟩ := hD
      exact ⟨fun i hi => by rw [gi_eq (fH _ _ (by omega))]; exact x1 i hi, fun b => by rw [gi_eq (fH _ _ (by omega))]; exact x2 b, fun b => by rw [gi_eq (fH _ _ (by omega))]; exact x3 b, by rw [gi_eq (fH _ _ (by omega))]; exact x4⟩
    have uH : ufr (117 + 3 * dp) h H := fun b k hb => fH b k (by omega)
    have lH : gi H 14 r.toNatClampNeg = gi h 14 r.toNatClampNeg := gi_eq (fH _ _ (by omega))
    have r1 := hR.1
    rcases A with ⟨c1, m, hm, -, E1⟩ | ⟨c1, c2, c3, c4, m, hm, hG1, E1⟩ | ⟨c1, c2, c3, c4, hG1, rfl⟩ | ⟨c1, c2, c3, m, hm, hG1, E1⟩ | ⟨c1, c2, -, rfl⟩
    · -- the end
      rw [if_pos (by omega)]
      obtain ⟨m1, d1, o1, hm1, E2, E3⟩ := E_call (ar := ([.ref (117 + 3 * dp)], [.ref (117 + 3 * dp)])) rfl rfl rfl rfl rfl rfl E1
      cases last_ok hG hf hR E2
      obtain ⟨hG2, rfl⟩ := yc_wk3 hG fr.1 fr.2 E3
      have f2 : ∀ {v : Value} b k, ¬ (b = 117 + 3 * dp ∧ k = 6) → rk_get (rk_pt h (117 + 3 * dp) 6 v) b k = rk_get h b k := fun b k z => rk_get_ne (by omega)
      refine ⟨_, _, rfl, rfl, ?_, ?_, WD_eq (fun b k hb => f2 b k (by omega)) hW, ?_, hG2, SV_fr (fun b k z1 z2 => f2 b k (by omega)) hS, fun b k hb => f2 b k (by omega)⟩
      · rw [gi_s (yE_fr hG hf (by decide))]
        rfl
      · obtain ⟨x1, x2, x3, x4⟩ := hD
        exact ⟨fun i hi => by rw [gi_eq (f2 _ _ (by omega))]; exact x1 i hi, fun b => by rw [gi_eq (f2 _ _ (by omega))]; exact x2 b, fun b => by rw [gi_eq (f2 _ _ (by omega))]; exact x3 b, by rw [gi_eq (f2 _ _ (by omega))]; exact x4⟩
      · rw [gi_eq (f2 118 5 (by omega))]
        exact hst
    · -- some may be left out
      obtain ⟨l4, l5⟩ := l3 pn (by omega)
      have hst1 : st < 2000 := by omega
      obtain ⟨e1, e2⟩ := y_dv (c := gi h (4 + rn) pn) (by rw [l4]; exact l5.1)
      rw [e1, l4] at c3
      rw [l4] at e2
      rw [if_neg (by omega), if_neg (by omega)]
      unfold cst
      rw [if_neg (by omega), if_neg (by omega), if_neg (by omega), if_neg (by omega), if_neg (by omega), if_neg (by omega), if_neg (by omega), if_neg (by omega), if_neg (by omega), if_neg (by omega)]
      dsimp only
      rw [if_pos rfl]
      obtain ⟨m1, d1, o1, hm1, E2, E3⟩ := E_call (ar := ([.ref (117 + 3 * dp)], [])) rfl rfl rfl rfl rfl rfl E1
      obtain ⟨h2, rfl, g1, g2, g3⟩ := take_ok hG1 hf hRH (by omega) E2
      have u2 := ufr_trans uH (pfr_ufr hf g3)
      have fin : ∀ {h' : rk_S} {y : Int32} {q : Nat × Int32 × eT}, WKo N ln cd (117 + 3 * dp) a h2 h' y q → WKo N ln cd (117 + 3 * dp) a h h' y q := by
        rintro h' y q ⟨w1, w2, w3, w4, w5, w6, w7, w8⟩
        refine ⟨w1, ?_, w3, w4, w5, w6, w7, ufr_trans u2 w8⟩
        rw [w2, gi_eq (g3 (117 + 3 * dp) 6 (by omega) (by omega)), gi_eq (fH (117 + 3 * dp) 6 (by omega))]
      have l2' : gi h2 14 r.toNatClampNeg = gi h 14 r.toNatClampNeg := gi_eq (u2 _ _ (by omega))
      have l6 := l5.2.1
      have go : ∀ (m' : Nat) (p' c' e' : Int32) (pn' : Nat), m' < n → p'.toInt = pn' → pn < pn' → pn' ≤ 100 → rk_ex m' d rm_X2_walk 13 [(0, .ref 118), (1, .int r), (2, .ref (117 + 3 * dp)), (3, .int t), (4, .int (gi h 14 rn)), (5, .int p'), (6, .int c'), (7, .int e')] [] h2 = some o → ∃ h' y, o = (some (.int y), h') ∧ WKo N ln cd (117 + 3 * dp) a h h' y (wlk false N (EVe false N ln cd (12 - dp)) a (ln rn) (cd rn) fu pn' (sz - 1, rw, nr, sr, wi, S, L, st + 1)) := by
        intro m' p' c' e' pn' hm' hp' hlt hle E'
        rw [← er, ← l2'] at E'
        obtain ⟨h', y, q1, q2⟩ := ih m' hm' d h2 o p' c' e' fu pn' (sz - 1) rw nr sr wi S L (st + 1) (by omega) g1 (PR_ufr u2 ⟨p1, p2, p3⟩) (KO_ufr u2 hK) (SV_fr (fun b k z1 z2 => g3 b k (by omega) (by omega)) hSH) hp' hle (by omega) (by omega) g2 (FRd_pfr g3 hDH) (WD_pfr hf g3 hWH) (by rw [gi_eq (g3 118 5 (by omega) (by omega))]; exact sH hst1) (by omega) hwi hnr hsr E'
        exact ⟨h', y, q1, fin q2⟩
      rcases yc_wk2 g1 fr.1 fr.2 E3 with ⟨y1, m2, hm2, -, E4⟩ | ⟨y1, m2, hm2, -, E4⟩
      · rw [if_neg y1]
        exact go m2 _ _ _ (pn + 1 + 0) (by omega) (y_inc hp (by omega)) (by omega) (by omega) E4
      · rw [if_pos y1]
        refine go m2 _ _ _ (pn + 1 + (cd rn pn - 600).toNat) (by omega) ?_ (by omega) (by omega) E4
        have q1 : (p + (gi h (4 + rn) pn - gi h (4 + rn) pn / (100 : Int32) * (100 : Int32))).toInt = ((pn + (cd rn pn - 600).toNat : Nat) : Int) := by
          rw [Int32.toInt_add, hp, e2, rk_bm (by omega) (by omega)]
          omega
        rw [y_inc q1 (by omega)]
        omega
    · -- none to look at
      obtain ⟨l4, l5⟩ := l3 pn (by omega)
      have hst1 : st < 2000 := by omega
      obtain ⟨e1, e2⟩ := y_dv (c := gi h (4 + rn) pn) (by rw [l4]; exact l5.1)
      rw [e1, l4] at c3
      rw [if_neg (by omega), if_neg (by omega)]
      unfold cst
      rw [if_neg (by omega), if_neg (by omega), if_neg (by omega), if_neg (by omega), if_neg (by omega), if_neg (by omega), if_neg (by omega), if_neg (by omega), if_neg (by omega), if_pos (by omega)]
      dsimp only
      rw [if_neg (by decide)]
      exact ⟨H, _, rfl, rfl, gi_eq (fH _ _ (by omega)), hDH, hWH, sH hst1, hG1, hSH, uH⟩
    · -- a code is done
      obtain ⟨l4, l5⟩ := l3 pn (by omega)
      have hst1 : st < 2000 := by omega
      obtain ⟨e1, e2⟩ := y_dv (c := gi h (4 + rn) pn) (by rw [l4]; exact l5.1)
      rw [e1, l4] at c3
      rw [if_neg (by omega), if_neg (by omega)]
      obtain ⟨m1, d1, o1, hm1, E2, E3⟩ := E_call (ar := ([.ref 118, .int (gi h (4 + rn) pn), .ref (117 + 3 * dp), .int t], [])) rfl rfl rfl rfl rfl rfl E1
      have hc6 := l5.2.1
      obtain ⟨h2, y, rfl, g⟩ := pf_ok (fun m2 h2 => hEn m2 (by omega)) hG1 hPH hKH hSH hd1 hd2 ht (by rw [l4]; exact l5) (by rw [l4]; omega) hRH hDH hWH (sH hst1) (by omega) E2
      rw [l4] at g
      cases hq : cst false N (EVe false N ln cd (12 - dp)) a (cd rn pn) sz rw nr sr wi S L (st + 1) with
      | mk e1 q =>
        obtain ⟨j, sz', rw', nr', sr', wi', S', L', st'⟩ := q
        rw [hq] at g
        obtain ⟨g1, g2, g3, g4, g5, g6, g7, g8, g9, g10⟩ := g
        dsimp only at g1 g2 g5 g6 g7 g8 ⊢
        subst g2
        obtain ⟨-, -, hb, hb2, hb3, hb4⟩ := cst_b (EVe_B (PR_b ⟨p1, p2, p3⟩) (12 - dp)) l5 hq (by omega) hwi hnr hsr
        have u2 := ufr_trans uH g10
        have l2' : gi h2 14 r.toNatClampNeg = gi h 14 r.toNatClampNeg := gi_eq (u2 _ _ (by omega))
        rcases yc_wk1 g3 fr.1 fr.2 E3 with ⟨y1, m2, hm2, -, E4⟩ | ⟨y1, -, rfl⟩
        · rw [if_pos (by omega)]
          rw [← er, ← l2'] at E4
          obtain ⟨h', y', q1, q2⟩ := ih m2 (by omega) d h2 o _ _ _ fu (pn + 1 + 0) sz' rw' nr' sr' wi' S' L' st' (by omega) g3 (PR_ufr u2 ⟨p1, p2, p3⟩) (KO_ufr u2 hK) g4 (y_inc hp (by omega)) (by omega) (by omega) (by omega) (g5 (by omega)) g6 g7 g8 hb hb2 hb3 hb4 E4
          refine ⟨h', y', q1, ?_⟩
          obtain ⟨w1, w2, w3, w4, w5, w6, w7, w8⟩ := q2
          refine ⟨w1, ?_, w3, w4, w5, w6, w7, ufr_trans u2 w8⟩
          rw [w2, g9, gi_eq (fH (117 + 3 * dp) 6 (by omega))]
        · rw [if_neg (by omega)]
          refine ⟨h2, y, rfl, g1, ?_, g6, g7, g8, g3, g4, u2⟩
          dsimp only
          rw [if_neg (by omega), g9, gi_eq (fH (117 + 3 * dp) 6 (by omega))]
    · rw [if_neg (by omega), if_pos (by omega)]
      exact ⟨h, _, rfl, rfl, rfl, hD, hW, hst, hG, hS, ufr_refl⟩
theorem wk_ok {n d : Nat} {h : rk_S} {o : Option Value × rk_S} (hEn : ∀ m, m < n → ENp N ln cd P m) {dp rn : Nat} {t r : Int32} {a : eS} {S : eS} {L : Int32} {st : Nat} (hG : yG h) (hP : PR N ln cd h) (hK : KO N P h) (hS : SV N ln cd h) (hd1 : 1 ≤ dp) (hd2 : dp ≤ 12) (ht : t.toInt = dp) (hr : r.toInt = rn) (hrn : rn < N) (hR : FRw h (117 + 3 * dp) 0 e0) (hD : FRd h (117 + 3 * dp) a eNo eNo 0) (h6 : gi h (117 + 3 * dp) 6 = 0) (hW : WD h S L) (hst : (gi h 118 5).toInt = st) (hst2 : st ≤ 2000) (E : rk_ex n d rm_X2_walk 0 [(0, .ref 118), (1, .int r), (2, .ref (117 + 3 * dp)), (3, .int t)] [] h = some o) : ∃ h' y e v S' L' st' sr wi nr, o = (some (.int y), h') ∧ EV false N ln cd (12 - dp) rn a S L st = (e, v, S', L', st', sr, wi, nr) ∧ ENo N ln cd (117 + 3 * dp) h h' y (e, v, S', L', st', sr, wi, nr) ∧ FRd h' (117 + 3 * dp) a nr sr wi := by
  have hf : isFr (117 + 3 * dp) := ⟨dp - 1, by omega, by omega⟩
  have fr := isFr_r hf
  obtain ⟨m, hm, -, E1⟩ := yc_wk0 hG fr.1 fr.2 (by omega) (by have := hP.1; omega) E
  obtain ⟨h', y, rfl, w⟩ := wk_loop (n0 := n) hEn hd1 hd2 ht hr hrn m d h o 0 0 0 41 0 0 e0 eNo eNo 0 S L st (by omega) hG hP hK hS rfl (by omega) (by omega) (by have := (hP.2.2 rn hrn).2.1; omega) hR hD hW hst hst2 (by omega) (fun b hb => by cases hb) (fun b hb => by cases hb) E1
  rw [EV_e]
  unfold EVp
  cases hq : wlk false N (EVe false N ln cd (12 - dp)) a (ln rn) (cd rn) 41 0 (0, e0, eNo, eNo, 0, S, L, st) with
  | mk e q =>
    obtain ⟨v, sz1, rw1, nr1, sr1, wi1, S1, L1, st1⟩ := q
    rw [hq] at w
    obtain ⟨w1, w2, w3, w4, w5, w6, w7, w8⟩ := w
    have hv : e ≠ 0 → v = 0 := (wlk_b (EVe_B (PR_b hP) (12 - dp)) (PR_b hP rn hrn).2 41 0 0 e0 eNo eNo 0 S L st _ _ _ _ _ _ _ _ _ _ hq (by decide) (by have := (hP.2.2 rn hrn).2.1; omega) hst2 (by omega) (fun b hb => by cases hb) (fun b hb => by cases hb)).2.2.2.2.2.2
    refine ⟨h', y, e, v, S1, L1, st1, sr1, wi1, nr1, rfl, rfl, ⟨w1, ?_, w4, w5, w3.2.2.1, w3.2.2.2, w6, w7, w8⟩, w3⟩
    dsimp only at w2 ⊢
    by_cases e0 : e = 0
    · rw [w2, if_pos e0]
    · rw [w2, if_neg e0, h6, hv e0]
/-- a call that was kept is told again -/
theorem rec_ok {n d : Nat} {h : rk_S} {o : Option Value × rk_S} {f c : Nat} (hG : yG h) (hf : isFr f) (hc : isKs c) (E : rk_ex n d rm_X2_recall 0 [(0, .ref 118), (1, .ref c), (2, .ref f)] [] h = some o) : ∃ h', o = (some (.int (gi h c 6)), h') ∧ yG h' ∧ gi h' f 4 = gi h c 4 ∧ gi h' f 5 = gi h c 8 ∧ gi h' f 6 = gi h c 5 ∧ gi h' 118 5 = gi h 118 5 + gi h c 7 ∧ ∀ b k, ¬ (b = f ∧ 4 ≤ k) → ¬ (b = 118 ∧ (k = 5 ∨ k = 7)) → ¬ (b = 20 ∧ k = 4) → ¬ (b = c ∧ 9 ≤ k) → rk_get h' b k = rk_get h b k := by
  have fr := isFr_r hf
  have cr := isKs_r hc
  obtain ⟨hG', rfl⟩ := yc_rec hG fr.1 fr.2 cr.1 cr.2 (hG.yE (by decide) (by decide) (by rw [yln_sh.1]; decide)) E
  have b4 := yE_fr hG hf (k := 4) (by decide)
  have b5 := yE_fr hG hf (k := 5) (by decide)
  have b6 := yE_fr hG hf (k := 6) (by decide)
  have e5 : yE 118 5 h := hG.yE (by decide) (by decide) (by rw [yln_sh.2.2]; decide)
  refine ⟨_, rfl, hG', ?_, ?_, ?_, ?_, fun b k z1 z2 z3 z4 => ?_⟩
  · rw [gi_y (by decide), gi_y (by decide), gi_s (yE_pt.mpr (yE_pt.mpr (yE_pt.mpr (yE_pt.mpr (yE_pt.mpr b4)))))]
  · rw [gi_y (by decide), gi_s (yE_pt.mpr (yE_pt.mpr (yE_pt.mpr (yE_pt.mpr (yE_pt.mpr (yE_pt.mpr b5))))))]
  · rw [gi_s (yE_pt.mpr (yE_pt.mpr (yE_pt.mpr (yE_pt.mpr (yE_pt.mpr (yE_pt.mpr (yE_pt.mpr b6)))))))]
  · rw [gi_x (by omega), gi_x (by omega), gi_x (by omega), gi_s (yE_pt.mpr (yE_pt.mpr (yE_pt.mpr (yE_pt.mpr e5))))]
  · rw [rk_get_ne (by omega), rk_get_ne (by omega), rk_get_ne (by omega), rk_get_ne (by omega), rk_get_ne (by omega), rk_get_ne (by omega), rk_get_ne (by omega), rk_get_ne (by omega)]
theorem en_ok (hPu : ∀ r, P r → ∀ i, i < ln r → eok P N (cd r i)) : ∀ n, ENp N ln cd P n := by
  intro n
  induction n using Nat.strongRecOn with
  | ind n ih =>
    intro d h o r t rn dp st a S L hG hP hK hS hd1 hd2 ht hr hrn hR hD h6 hW hst hst2 E
    have hf : isFr (117 + 3 * dp) := ⟨dp - 1, by omega, by omega⟩
    have fr := isFr_r hf
    have hN := hP.2.1
    rcases yc_en hG fr.1 fr.2 E with ⟨c1, m, hm, -, E1⟩ | ⟨c1, m, hm, -, E1⟩
    · -- not one of those kept
      obtain ⟨m1, d1, o1, hm1, E2, E3⟩ := E_call (ar := ([.ref 118, .int r, .ref (117 + 3 * dp), .int t], [])) rfl rfl rfl rfl rfl rfl E1
      obtain ⟨h', y, e, v, S', L', st', sr, wi, nr, rfl, q1, q2, -⟩ := wk_ok (fun m2 h2 => ih m2 (by omega)) hG hP hK hS hd1 hd2 ht hr hrn hR hD h6 hW hst hst2 E2
      obtain ⟨-, rfl⟩ := yc_en1 q2.2.2.2.2.2.2.1 fr.1 fr.2 E3
      rw [q1]
      exact ⟨h', y, rfl, q2⟩
    · have hbit : bt (gi h 118 4) rn = true := by
        cases e : bt (gi h 118 4) rn with
        | true => rfl
        | false =>
          refine absurd ((y_bit (by omega) (by omega)).mpr ?_) c1
          rw [show r.toInt.toNat = rn by omega]
          exact e
      have hPr := hK rn hrn hbit
      obtain ⟨m1, d1, o1, hm1, E2, E3⟩ := E_call (ar := ([.ref 20, .int r, .ref (117 + 3 * dp), .ref 18], [])) rfl rfl rfl rfl rfl rfl E1
      obtain ⟨⟨cn, s1, s2, s3⟩, s4, s5⟩ := id hS
      obtain ⟨p, rfl, hp⟩ := ft_ok (f := 117 + 3 * dp) hG (by omega) E2
      -- none kept that fits
      have miss : ∀ m3, m3 < n → rk_ex m3 d rm_X2_enter 98 [(5, .int (gi h 118 5)), (4, .int p), (0, .ref 118), (1, .int r), (2, .ref (117 + 3 * dp)), (3, .int t)] [.int t, .ref (117 + 3 * dp), .int r, .ref 118] (rk_pt h 118 8 (.int ((gi h 118 8) + (1 : Int32)))) = some o → yG (rk_pt h 118 8 (.int ((gi h 118 8) + (1 : Int32)))) → ∃ h' y, o = (some (.int y), h') ∧ ENo N ln cd (117 + 3 * dp) h h' y (EV false N ln cd (12 - dp) rn a S L st) := by
        intro m3 hm3 E4 hG1
        have f1 : ∀ b k, ¬ (b = 118 ∧ k = 8) → rk_get (rk_pt h 118 8 (.int ((gi h 118 8) + (1 : Int32)))) b k = rk_get h b k := fun b k z => rk_get_ne (by omega)
        generalize rk_pt h 118 8 (.int ((gi h 118 8) + (1 : Int32))) = H at *
        have uH : ufr (117 + 3 * dp) h H := fun b k hb => f1 b k (by omega)
        have hDH : FRd H (117 + 3 * dp) a eNo eNo 0 := by
          obtain ⟨x1, x2, x3, x4⟩ := hD
          exact ⟨fun i hi => by rw [gi_eq (f1 _ _ (by omega))]; exact x1 i hi, fun b => by rw [gi_eq (f1 _ _ (by omega))]; exact x2 b, fun b => by rw [gi_eq (f1 _ _ (by omega))]; exact x3 b, by rw [gi_eq (f1 _ _ (by omega))]; exact x4⟩
        obtain ⟨m4, d4, o4, hm4, E5, E6⟩ := E_call (ar := ([.ref 118, .int r, .ref (117 + 3 * dp), .int t], [])) rfl rfl rfl rfl rfl rfl E4
        obtain ⟨h2, y, e, v, S', L', st', sr, wi, nr, rfl, q1, q2, q3⟩ := wk_ok (fun m2 h2 => ih m2 (by omega)) hG1 (PR_ufr uH hP) (KO_ufr uH hK) (SV_fr (fun b k z1 z2 => f1 b k (by omega)) hS) hd1 hd2 ht hr hrn ⟨by rw [gi_eq (f1 _ _ (by omega))]; exact hR.1, by omega, fun i hi => by omega⟩ hDH (by rw [gi_eq (f1 _ _ (by omega))]; exact h6) (WD_eq (fun b k hb => f1 b k (by omega)) hW) (by rw [gi_eq (f1 _ _ (by omega))]; exact hst) hst2 E5
        obtain ⟨n1, n2, n3, n4, n5, n6, n7, n8, n9⟩ := id q2
        have u2 := ufr_trans uH n9
        dsimp only at n1 n2 n3 n4 n5 n6
        rw [q1]
        obtain ⟨b1, b2, b3, b4, b5, b6, b7⟩ := EV_b (PR_b hP) _ _ hrn _ _ _ _ _ _ _ _ _ _ _ _ q1 hst2
        rcases yc_en4 n7 fr.1 fr.2 E6 with ⟨c2, -, rfl⟩ | ⟨c2, c3, -, rfl⟩ | ⟨c2, c3, m5, hm5, -, E7⟩
        · exact ⟨h2, y, rfl, n1, n2, n3, n4, n5, n6, n7, n8, u2⟩
        · exact ⟨h2, y, rfl, n1, n2, n3, n4, n5, n6, n7, n8, u2⟩
        · obtain ⟨m6, d6, o6, hm6, E8, E9⟩ := E_call (ar := ([.ref 20, .int r, .ref (117 + 3 * dp), .ref 18, .int y, .int ((gi h2 118 5) - (gi h 118 5))], [])) rfl rfl rfl rfl rfl rfl E7
          have es : ((gi h2 118 5) - (gi h 118 5)).toInt = ((st' - st : Nat) : Int) := by
            rw [Int32.toInt_sub, n4, hst, rk_bm (by omega) (by omega)]
            omega
          obtain ⟨⟨v1, v2, v3⟩, v4⟩ := fr_EV hPu (12 - dp) 0 rn hPr a a S L st e v S' L' st' sr wi nr q1 (by omega) (by omega)
          have w1 := v1.symm
          have w2 := v2.symm
          subst w1
          subst w2
          obtain ⟨h3, rfl, g1, g2, g3⟩ := add_ok (N := N) (ln := ln) (cd := cd) n7 n8 hf (fun h1 h' c hc hh hfl => by
            obtain ⟨a2, a3, a4, a5, a6, a7, a8, a9, a10⟩ := hfl
            have hg : ∀ k, gi h1 (117 + 3 * dp) k = gi h2 (117 + 3 * dp) k := fun k => gi_eq (hh _ _ (by omega))
            refine ⟨rn, e, wi, st' - st, v, nr, sr, by rw [a2]; exact hr, fun b => by rw [a3, hg]; exact q3.2.1 b, fun b => by rw [a4, hg]; exact n5 b, by rw [a5, hg]; exact n2, by rw [a6]; exact n1, by rw [a7]; exact es, by omega, by rw [a8, hg]; exact n6, by omega, b5, b6, fun a' S' L' k' st'' x1 x2 x3 x4 => ?_⟩
            refine (fr_EV hPu (12 - dp) k' rn hPr a a' S L st e v S L st' sr wi nr q1 (by omega) (by omega)).2 S' L' st'' (fun i hi => ?_) (fun s hs => ?_) x3 x4
            · rw [x1 i hi, a9 i (b5 i hi) (by rw [hg, q3.2.1]; exact hi), gi_eq (hh _ _ (by omega))]
              exact q3.1 i (b5 i hi)
            · rw [x2 s hs, a10 s (b6 s hs) (by rw [hg, n5]; exact hs), gi_eq (hh _ _ (by omega))]
              exact n3.1 s (b6 s hs)) E8
          obtain ⟨-, rfl⟩ := yc_en5 g1 fr.1 fr.2 E9
          refine ⟨h3, y, rfl, n1, ?_, WD_eq (fun b k hb => g3 b k (by omega)) n3, ?_, fun b => ?_, ?_, g1, g2, fun b k hb => ?_⟩
          · rw [gi_eq (g3 _ _ (by omega))]; exact n2
          · rw [gi_eq (g3 _ _ (by omega))]; exact n4
          · rw [gi_eq (g3 _ _ (by omega))]; exact n5 b
          · rw [gi_eq (g3 _ _ (by omega))]; exact n6
          · exact (g3 b k (by omega)).trans (u2 b k hb)
      rcases yc_en2 hG fr.1 fr.2 E3 with ⟨-, m3, hm3, hG3, E4⟩ | ⟨-, -, m3, hm3, hG3, E4⟩ | ⟨-, -, -, m3, hm3, hG3, E4⟩ | ⟨-, -, -, -, m3, hm3, hG3, E4⟩ | ⟨k1, k2, k3, k4, m3, hm3, -, E4⟩
      · exact miss m3 (by omega) E4 hG3
      · exact miss m3 (by omega) E4 hG3
      · exact miss m3 (by omega) E4 hG3
      · exact miss m3 (by omega) E4 hG3
      · -- one that holds
        have epn : p.toInt = (p.toInt.toNat : Nat) := by omega
        rw [y_ix epn] at k3 k4 E4
        have hpl : p.toInt.toNat < cn := by omega
        obtain ⟨c, hcq⟩ : ∃ c, c = gr h 21 p.toInt.toNat := ⟨_, rfl⟩
        rw [← hcq] at k3 k4 E4
        have hc : isKs c := hcq ▸ s4 _ (by omega)
        have cr := isKs_r hc
        obtain ⟨z1, z2, z3⟩ := hp (by omega) (by omega)
        rw [← hcq] at z1 z2 z3
        obtain ⟨r0, e, wi, ks, v, nr, sr, a2, a3, a4, a5, a6, a7, a8, a9, a10, a11, a12, a13⟩ := s3 _ hpl
        rw [← hcq] at a2 a3 a4 a5 a6 a7 a9 a13
        have hr0 : r0 = rn := by omega
        subst hr0
        have es : ((gi h 118 5) + (gi h c 7)).toInt = ((st + ks : Nat) : Int) := by
          rw [Int32.toInt_add, hst, a7, rk_bm (by omega) (by omega)]
          omega
        have et : (t + gi h c 8).toInt = ((dp + wi : Nat) : Int) := by
          rw [Int32.toInt_add, ht, a9, rk_bm (by omega) (by omega)]
          omega
        have ev := a13 a S L (12 - dp) st (fun i hi => by rw [z2 i (a11 i hi) (by rw [a3]; exact hi)]; exact (hD.1 i (a11 i hi)).symm) (fun s hs => by rw [z3 s (a12 s hs) (by rw [a4]; exact hs)]; exact (hW.1 s (a12 s hs)).symm) (by omega) (by omega)
        obtain ⟨m4, d4, o4, hm4, E5, E6⟩ := E_call (ar := ([.ref 118, .ref c, .ref (117 + 3 * dp)], [])) rfl rfl rfl rfl rfl rfl E4
        obtain ⟨h2, rfl, g1, g2, g3, g4, g5, g6⟩ := rec_ok hG hf hc E5
        obtain ⟨-, rfl⟩ := yc_en3 g1 fr.1 fr.2 E6
        rw [ev]
        refine ⟨h2, _, rfl, a6, by rw [g4]; exact a5, WD_eq (fun b k hb => g6 b k (by omega) (by omega) (by omega) (by omega)) hW, by rw [g5]; exact es, fun b => by rw [g2]; exact a4 b, by rw [g3]; exact a9, g1, ?_, fun b k hb => g6 b k (by omega) (by omega) (by omega) (by omega)⟩
        refine SV_eq (fun b k hb => g6 b k (by omega) (by omega) (by omega) (fun z => ?_)) hS
        obtain ⟨rfl, z⟩ := z
        rcases hb with hb | hb | ⟨-, -, hb | hb⟩
        · omega
        · omega
        · omega
        · exact hb hc
/-- a run of the class -/
theorem start_ok (hPu : ∀ r, P r → ∀ i, i < ln r → eok P N (cd r i)) {n d : Nat} {h : rk_S} {o : Option Value × rk_S} {r a b c w : Int32} {rn : Nat} {S : eS} {L : Int32} (hG : yG h) (hP : PR N ln cd h) (hw : ∀ r, r < N → bt w r = true → P r) (hS : SV N ln cd h) (hr : r.toInt = rn) (hrn : rn < N) (hW : WD h S L) (E : rk_ex n d rm_X2_start 0 [(0, .ref 118), (1, .int r), (2, .int a), (3, .int b), (4, .int c), (5, .int w)] [] h = some o) : ∃ h' e v S' L' st' sr wi nr, o = (none, h') ∧ EV false N ln cd 11 rn (e3 a b c) S L 0 = (e, v, S', L', st', sr, wi, nr) ∧ yG h' ∧ SV N ln cd h' ∧ WD h' S' L' ∧ (gi h' 118 10).toInt = (if e = 6 then 4 else (e : Int)) ∧ gi h' 118 11 = v ∧ ∀ b k, b < 18 ∨ 156 ≤ b → rk_get h' b k = rk_get h b k := by
  have hf : isFr 120 := ⟨0, by omega, by omega⟩
  obtain ⟨m, hm, hG1, E1⟩ := yc_st hG E
  have e118 : ∀ k, k < 12 → yE 118 k h := fun k hk => hG.yE (by decide) (by decide) (by rw [yln_sh.2.2]; exact hk)
  obtain ⟨H, hH⟩ : ∃ H, H = rk_pt (rk_pt (rk_pt (rk_pt (rk_pt h 118 4 (.int w)) 118 5 (.int (0 : Int32))) 118 6 (.int (0 : Int32))) 118 7 (.int (0 : Int32))) 118 8 (.int (0 : Int32)) := ⟨_, rfl⟩
  rw [← hH] at hG1 E1
  have f1 : ∀ b k, b ≠ 118 → rk_get H b k = rk_get h b k := fun b k z => by
    rw [hH, rk_get_ne (Or.inl (Ne.symm z)), rk_get_ne (Or.inl (Ne.symm z)), rk_get_ne (Or.inl (Ne.symm z)), rk_get_ne (Or.inl (Ne.symm z)), rk_get_ne (Or.inl (Ne.symm z))]
  have h4 : gi H 118 4 = w := by rw [hH, gi_y (by decide), gi_y (by decide), gi_y (by decide), gi_y (by decide), gi_s (e118 4 (by decide))]
  have h5 : gi H 118 5 = 0 := by rw [hH, gi_y (by decide), gi_y (by decide), gi_y (by decide), gi_s (yE_pt.mpr (e118 5 (by decide)))]
  obtain ⟨m1, d1, o1, hm1, E2, E3⟩ := E_call (ar := ([.ref 120, .int a, .int b, .int c], [])) rfl rfl rfl rfl rfl rfl E1
  obtain ⟨h2, rfl, hG2, hR2, hD2, h26, f2⟩ := beg_ok hG1 hf E2
  obtain ⟨m2, hm2, -, E4⟩ := yc_st1 hG2 E3
  obtain ⟨m3, d3, o3, hm3, E5, E6⟩ := E_call (ar := ([.ref 118, .int r, .ref 120, .int (1 : Int32)], [])) rfl rfl rfl rfl rfl rfl E4
  have fb : ∀ b k, b < 118 ∨ 156 ≤ b → rk_get h2 b k = rk_get h b k := fun b k z => (f2 b k (by omega) (by omega)).trans (f1 b k (by omega))
  obtain ⟨h3, y, rfl, en⟩ := en_ok hPu m3 d3 h2 o3 r 1 rn 1 0 (e3 a b c) S L hG2 (PR_eq (fun b k hb => fb b k (by omega)) hP) (fun r hr hb => hw r hr (by rw [gi_eq (f2 118 4 (by omega) (by omega)), h4] at hb; exact hb)) (SV_fr (fun b k z1 z2 => fb b k (by omega)) hS) (by omega) (by omega) rfl hr hrn hR2 hD2 h26 (WD_eq (fun b k hb => fb b k (by omega)) hW) (by rw [gi_eq (f2 118 5 (by omega) (by omega)), h5]; rfl) (by omega) E5
  rw [show 12 - 1 = 11 from rfl] at en
  generalize hq : EV false N ln cd 11 rn (e3 a b c) S L 0 = Q at en ⊢
  obtain ⟨e, v, S', L', st', sr, wi, nr⟩ := Q
  obtain ⟨n1, n2, n3, n4, n5, n6, n7, n8, n9⟩ := en
  dsimp only at n1 n2 n3 n4 n5 n6
  have e3' : ∀ k, k < 12 → yE 118 k h3 := fun k hk => n7.yE (by decide) (by decide) (by rw [yln_sh.2.2]; exact hk)
  have fin : ∀ (z : Int32), z.toInt = (if e = 6 then 4 else (e : Int)) → SV N ln cd (rk_pt (rk_pt (rk_pt h3 118 10 (.int z)) 118 11 (.int (gi h3 120 6))) 118 9 (.int ((gi h3 120 5) + (1 : Int32)))) ∧ WD (rk_pt (rk_pt (rk_pt h3 118 10 (.int z)) 118 11 (.int (gi h3 120 6))) 118 9 (.int ((gi h3 120 5) + (1 : Int32)))) S' L' ∧ (gi (rk_pt (rk_pt (rk_pt h3 118 10 (.int z)) 118 11 (.int (gi h3 120 6))) 118 9 (.int ((gi h3 120 5) + (1 : Int32)))) 118 10).toInt = (if e = 6 then 4 else (e : Int)) ∧ gi (rk_pt (rk_pt (rk_pt h3 118 10 (.int z)) 118 11 (.int (gi h3 120 6))) 118 9 (.int ((gi h3 120 5) + (1 : Int32)))) 118 11 = v ∧ ∀ b k, b < 18 ∨ 156 ≤ b → rk_get (rk_pt (rk_pt (rk_pt h3 118 10 (.int z)) 118 11 (.int (gi h3 120 6))) 118 9 (.int ((gi h3 120 5) + (1 : Int32)))) b k = rk_get h b k := by
    intro z hz
    have f4 : ∀ b k, b ≠ 118 → rk_get (rk_pt (rk_pt (rk_pt h3 118 10 (.int z)) 118 11 (.int (gi h3 120 6))) 118 9 (.int ((gi h3 120 5) + (1 : Int32)))) b k = rk_get h3 b k := fun b k z => by
      rw [rk_get_ne (Or.inl (Ne.symm z)), rk_get_ne (Or.inl (Ne.symm z)), rk_get_ne (Or.inl (Ne.symm z))]
    refine ⟨SV_fr (fun b k z1 z2 => f4 b k (by omega)) n8, WD_eq (fun b k hb => f4 b k (by omega)) n3, ?_, ?_, fun b k hb => (f4 b k (by omega)).trans ((n9 b k (by omega)).trans (fb b k (by omega)))⟩
    · rw [gi_y (by decide), gi_y (by decide), gi_s (e3' 10 (by decide))]
      exact hz
    · rw [gi_y (by decide), gi_s (yE_pt.mpr (e3' 11 (by decide)))]
      exact n2
  rcases yc_st2 n7 E6 with ⟨c1, hG4, rfl⟩ | ⟨c1, hG4, rfl⟩
  · exact ⟨_, e, v, S', L', st', sr, wi, nr, rfl, rfl, hG4, fin y (by rw [if_neg (by omega)]; exact n1)⟩
  · exact ⟨_, e, v, S', L', st', sr, wi, nr, rfl, rfl, hG4, fin 4 (by rw [if_pos (by omega)]; rfl)⟩
end RKWK
