/-! the reference: a whole run, in either table -/
section RKGG
variable {N : Nat} {ln : Nat → Nat} {cd : Nat → Nat → Int} {P : Nat → Prop} {tn : Nat}
theorem mgo_ok (hPu : ∀ r, P r → ∀ i, i < ln r → eok P N (cd r i)) (htn : tn < 2) {n d rn rm : Nat} {h : rk_S} {o : Option Value × rk_S} {t q p r a b c : Int32} {S : eS} {L : Int32} (hG : yG h) (hP : MP N ln cd h) (ht : t.toInt = tn) (hV : VM N ln cd tn h) (hK : ∀ r, r < N → bt q r = true → P r) (hrm : p.toInt = rm) (hrm2 : rm ≤ 32) (hr : r.toInt = rn) (hrn : rn < N) (hW : MW tn h S L) (E : rk_ex n d rm_X8_go 0 [(0, .ref 316), (1, .int t), (2, .int q), (3, .int p), (4, .int r), (5, .int a), (6, .int b), (7, .int c)] [] h = some o) : ∃ h' e v S' L' st' sr wi nr, o = (none, h') ∧ EV true N ln cd 11 rn (e3 a b c) S L 0 = (e, v, S', L', st', sr, wi, nr) ∧ yG h' ∧ VM N ln cd tn h' ∧ MW tn h' S' L' ∧ (gi h' 316 39).toInt = tel e ∧ gi h' 316 41 = v ∧ ∀ b k, ¬ (b = 316 ∧ ((20 ≤ k ∧ k ≤ 24) ∨ (34 ≤ k ∧ k ≤ 41))) → ¬ mtb tn b k → ¬ (334 ≤ b ∧ b ≤ 342) → rk_get h' b k = rk_get h b k := by
  have hN := hP.2.1
  obtain ⟨m, hm, hG1, E1⟩ := ym_go0 hG E
  obtain ⟨H, hH⟩ : ∃ H, H = rk_pt (rk_pt (rk_pt (rk_pt (rk_pt (rk_pt (rk_pt (rk_pt (rk_pt (rk_pt (rk_pt (rk_pt h 316 21 (.int t)) 316 22 (.int q)) 316 23 (.int p)) 316 24 (.int (0 : Int32))) 316 34 (.int (0 : Int32))) 316 35 (.int (0 : Int32))) 316 36 (.int (0 : Int32))) 316 37 (.int (0 : Int32))) 316 38 (.int (0 : Int32))) 316 39 (.int (0 : Int32))) 316 40 (.int (1 : Int32))) 316 41 (.int (0 : Int32)) := ⟨_, rfl⟩
  rw [← hH] at hG1 E1
  have e21 : gi H 316 21 = t := by rw [hH, gi_y (by decide), gi_y (by decide), gi_y (by decide), gi_y (by decide), gi_y (by decide), gi_y (by decide), gi_y (by decide), gi_y (by decide), gi_y (by decide), gi_y (by decide), gi_y (by decide), gi_s (yE_m hG (by decide))]
  have e22 : gi H 316 22 = q := by rw [hH, gi_y (by decide), gi_y (by decide), gi_y (by decide), gi_y (by decide), gi_y (by decide), gi_y (by decide), gi_y (by decide), gi_y (by decide), gi_y (by decide), gi_y (by decide), gi_s (yE_pt.mpr (yE_m hG (by decide)))]
  have e23 : gi H 316 23 = p := by rw [hH, gi_y (by decide), gi_y (by decide), gi_y (by decide), gi_y (by decide), gi_y (by decide), gi_y (by decide), gi_y (by decide), gi_y (by decide), gi_y (by decide), gi_s (yE_pt.mpr (yE_pt.mpr (yE_m hG (by decide))))]
  have e24 : gi H 316 24 = (0 : Int32) := by rw [hH, gi_y (by decide), gi_y (by decide), gi_y (by decide), gi_y (by decide), gi_y (by decide), gi_y (by decide), gi_y (by decide), gi_y (by decide), gi_s (yE_pt.mpr (yE_pt.mpr (yE_pt.mpr (yE_m hG (by decide)))))]
  have e34 : gi H 316 34 = (0 : Int32) := by rw [hH, gi_y (by decide), gi_y (by decide), gi_y (by decide), gi_y (by decide), gi_y (by decide), gi_y (by decide), gi_y (by decide), gi_s (yE_pt.mpr (yE_pt.mpr (yE_pt.mpr (yE_pt.mpr (yE_m hG (by decide))))))]
  have e39 : gi H 316 39 = (0 : Int32) := by rw [hH, gi_y (by decide), gi_y (by decide), gi_s (yE_pt.mpr (yE_pt.mpr (yE_pt.mpr (yE_pt.mpr (yE_pt.mpr (yE_pt.mpr (yE_pt.mpr (yE_pt.mpr (yE_pt.mpr (yE_m hG (by decide)))))))))))]
  have f1 : ∀ b k, ¬ (b = 316 ∧ ((20 ≤ k ∧ k ≤ 24) ∨ (34 ≤ k ∧ k ≤ 41))) → rk_get H b k = rk_get h b k := fun b k z => by
    rw [hH, rk_get_ne (by omega), rk_get_ne (by omega), rk_get_ne (by omega), rk_get_ne (by omega), rk_get_ne (by omega), rk_get_ne (by omega), rk_get_ne (by omega), rk_get_ne (by omega), rk_get_ne (by omega), rk_get_ne (by omega), rk_get_ne (by omega), rk_get_ne (by omega)]
  have hPH : MP N ln cd H := MP_eq (fun b k z => f1 b k (by omega)) hP
  have hVH : VM N ln cd tn H := VM_eq (fun b k z1 z2 => f1 b k (by omega)) hV
  have hWH : MW tn H S L := MW_eq (fun b k z => f1 b k (by omega)) hW
  obtain ⟨m1, d1, o1, hm1, E2, E3⟩ := E_call (ar := ([.ref 316, .int r, .int a, .int b, .int c], [])) rfl rfl rfl rfl rfl rfl E1
  have fin : ∀ (m3 : Nat) (h0 h3 : rk_S), mfr tn 0 H h0 → RT N ln cd tn 0 (0, 0, 0, e0, e0, eNo, eNo, 0, 0) h0 h3 (EV true N ln cd 11 rn (e3 a b c) S L 0) → rk_ex m3 d rm_X8_go 72 [(0, .ref 316), (1, .int t), (2, .int q), (3, .int p), (4, .int r), (5, .int a), (6, .int b), (7, .int c)] [] h3 = some o → ∃ h' e v S' L' st' sr wi nr, o = (none, h') ∧ EV true N ln cd 11 rn (e3 a b c) S L 0 = (e, v, S', L', st', sr, wi, nr) ∧ yG h' ∧ VM N ln cd tn h' ∧ MW tn h' S' L' ∧ (gi h' 316 39).toInt = tel e ∧ gi h' 316 41 = v ∧ ∀ b k, ¬ (b = 316 ∧ ((20 ≤ k ∧ k ≤ 24) ∨ (34 ≤ k ∧ k ≤ 41))) → ¬ mtb tn b k → ¬ (334 ≤ b ∧ b ≤ 342) → rk_get h' b k = rk_get h b k := by
    intro m3 h0 h3 mm hR E4
    generalize EV true N ln cd 11 rn (e3 a b c) S L 0 = Q at hR ⊢
    obtain ⟨e, v, S', L', st', sr, wi, nr⟩ := Q
    obtain ⟨r1, r2, r3, r4, r5, r6, r7, r8, r9, r10, r11⟩ := hR
    rcases ym_go r1 E4 with ⟨c1, -, rfl⟩ | ⟨c1, -⟩ | ⟨c1, -⟩ | ⟨c1, -⟩
    · exact ⟨h3, e, v, S', L', st', sr, wi, nr, rfl, rfl, r1, r2, r3, r5, r9, fun b k z1 z2 z3 => (r10 b k (by omega) z2 (by omega)).trans ((mm b k (by omega) z2 (by omega)).trans (f1 b k z1))⟩
    · omega
    · omega
    · omega
  rcases men_ok (dc := 0) (cc := (0, 0, 0, e0, e0, eNo, eNo, 0, 0)) (st := 0) hG1 (by rw [e21]; exact ht) htn hVH (by rw [e24]; rfl) (by omega) hr (by omega) hWH (by rw [e34]; rfl) (by omega) (fun z => by omega) E2 with ⟨h', rfl, g1, g2, g3, g4⟩ | ⟨h', rfl, g⟩
  · have mm : mfr tn 0 H h' := fun b k x1 x2 x3 => g4 b k (by omega) (fun z => x3 ⟨by unfold mfq at z; omega, by unfold mfp; omega⟩)
    obtain ⟨m4, h4, u1, u2, u3⟩ := gl_ok hPu htn m1 d h' o 0 rn 0 41 0 0 0 0 rm e0 (e3 a b c) eNo eNo S S L L (0, 0, 0, e0, e0, eNo, eNo, 0, 0) g1 (MP_mfr mm hPH) (by rw [mfr_k mm rfl (by omega), e21]; exact ht) (VM_eq (fun b k z1 z2 => g4 b k (by omega) (by unfold mfq; omega)) hVH) (by rw [mfr_k mm rfl (by omega), e22]; exact hK) (by rw [mfr_k mm rfl (by omega), e23]; exact hrm) hrm2 g3 (by omega) hrn (by rw [Nat.zero_min]; exact g2) (MW_eq (fun b k z => g4 b k (by omega) (by unfold mfq; omega)) hWH) (by rw [gi_eq (g4 _ _ (by omega) (by unfold mfq; omega)), e34]; rfl) (by omega) (by omega) (by rw [gi_eq (g4 _ _ (by omega) (by unfold mfq; omega)), e39]; rfl) (by omega) (by have := (hP.2.2 rn hrn).2.1; omega) (by omega) (fun b hb => by cases hb) (fun b hb => by cases hb) (EV_prj _ _ _ _ _ _ _ _ _ _) (fun z => by omega) E3
    exact fin m4 h' h4 mm u3 u2
  · exact fin m1 H h' mfr_refl g E3
end RKGG
