/-! the reference: leaving a call -/
section RKMV
variable {N : Nat} {ln : Nat → Nat} {cd : Nat → Nat → Int} {P : Nat → Prop} {tn : Nat} {n d fn : Nat} {h : rk_S} {o : Option Value × rk_S}
theorem mlv_ok (hPu : ∀ r, P r → ∀ i, i < ln r → eok P N (cd r i)) {r p sz : Nat} {rw a : eS} {nr sr : eB} {wi st0 e st rm : Nat} {v : Int32} {S S0 : eS} {L L0 : Int32} {cc : eC} (hG : yG h) (hP : MP N ln cd h) (ht : (gi h 316 21).toInt = tn) (htn : tn < 2) (hV : VM N ln cd tn h) (hK : ∀ r, r < N → bt (gi h 316 22) r = true → P r) (hrm : (gi h 316 23).toInt = rm) (hrm2 : rm ≤ 32) (hd : (gi h 316 24).toInt = ((fn + 1 : Nat) : Int)) (hfn : fn < 12) (hr : r < N) (hM : MFr h fn r p sz rw a nr sr wi st0) (hW : MW tn h S L) (hst : (gi h 316 34).toInt = st) (hst0 : st0 ≤ 2000) (hev : EV true N ln cd (11 - fn) r a S0 L0 st0 = (e, v, S, L, st, sr, wi, nr)) (href : (gi h 316 39).toInt = tel e) (hmk : (e = 5 ∨ e = 6) → (gi h 316 40).toInt = 0) (hv : v = if e = 0 then (if sz = 0 then 0 else rw (sz - 1)) else 0) (hC : 1 ≤ fn → MC h (fn - 1) cc ∧ cc.2.2.1 ≤ 19) (E : rk_ex n d rm_X8_leave 0 [(0, .ref 316)] [] h = some o) : ∃ h', o = (none, h') ∧ RT N ln cd tn fn cc h h' (e, v, S, L, st, sr, wi, nr) := by
  have hN := hP.2.1
  obtain ⟨b1, b2, b3, b4, b5, b6, b7⟩ := EV_b (MP_b hP) _ _ hr _ _ _ _ _ _ _ _ _ _ _ _ hev hst0
  have hf1 : ((gi h 316 24) - (1 : Int32)).toInt = ((fn : Nat) : Int) := by
    rw [y_subc hd (j := 1) rfl (by omega) (by omega)]
    omega
  have hte : tel e = 0 ↔ e = 0 := by
    unfold tel
    split <;> omega
  -- the value
  have s1 : ∃ m1 H1, m1 < n ∧ yG H1 ∧ gi H1 316 41 = v ∧ (∀ b k, ¬ (b = 316 ∧ k = 41) → rk_get H1 b k = rk_get h b k) ∧ rk_ex m1 d rm_X8_leave 49 [(1, .int ((gi h 316 24) - (1 : Int32))), (0, .ref 316)] [] H1 = some o := by
    have A := ym_lv hG E
    rw [y_ix hf1] at A
    have y41 := yE_m hG (k := 41) (by decide)
    rcases A with ⟨c1, m, hm, hG1, E1⟩ | ⟨c1, c2, m, hm, hG1, E1⟩ | ⟨c1, c2, m, hm, hG1, E1⟩
    · exact ⟨m, _, hm, hG1, by rw [gi_s y41, hv, if_neg (fun z => c1 (by rw [href]; exact hte.mpr z))], fun b k z => rk_get_ne (by omega), E1⟩
    · have hs := hM.2.2.2.1.1
      exact ⟨m, _, hm, hG1, by rw [gi_s y41, hv, if_pos (hte.mp (by rw [← href]; exact c1)), if_pos (by omega)], fun b k z => rk_get_ne (by omega), E1⟩
    · have hs := hM.2.2.2.1.1
      have hs2 := hM.2.2.2.1.2.1
      have hix : ((20 : Int32) * ((gi h 316 24) - (1 : Int32)) + (gi h 337 fn) - (1 : Int32)).toInt = ((20 * fn + (sz - 1) : Nat) : Int) := by
        rw [y_subc (y_20 hf1 hs (by omega) (by omega)) (j := 1) rfl (by omega) (by omega)]
        omega
      exact ⟨m, _, hm, hG1, by rw [gi_s y41, y_ix hix, hM.2.2.2.1.2.2 (sz - 1) (by omega), hv, if_pos (hte.mp (by rw [← href]; exact c1)), if_neg (by omega)], fun b k z => rk_get_ne (by omega), E1⟩
  obtain ⟨m1, H1, hm1, hG1, e41, f1, E1⟩ := s1
  generalize (gi h 316 24) - (1 : Int32) = f at *
  have ef := y_ix hf1
  -- kept, or not
  have s2 : ∃ m2 H2, yG H2 ∧ VM N ln cd tn H2 ∧ (∀ b k, ¬ (mtb tn b k ∧ 322 ≤ b) → ¬ (b = 316 ∧ k = 20) → rk_get H2 b k = rk_get H1 b k) ∧ rk_ex m2 d rm_X8_leave 84 [(1, .int f), (0, .ref 316)] [] H2 = some o := by
    have hV1 : VM N ln cd tn H1 := VM_eq (fun b k z1 z2 => f1 b k (by omega)) hV
    have A := ym_lv0 hG1 E1
    rw [ef, gi_eq (f1 316 22 (by omega)), gi_eq (f1 334 fn (by omega)), gi_eq (f1 316 40 (by omega)), gi_eq (f1 316 23 (by omega))] at A
    rcases A with ⟨-, m2, hm2, -, E2⟩ | ⟨-, -, m2, hm2, -, E2⟩ | ⟨-, -, -, m2, hm2, -, E2⟩ | ⟨c1, c2, c3, m2, hm2, -, E2⟩
    · exact ⟨m2, H1, hG1, hV1, fun _ _ _ _ => rfl, E2⟩
    · exact ⟨m2, H1, hG1, hV1, fun _ _ _ _ => rfl, E2⟩
    · exact ⟨m2, H1, hG1, hV1, fun _ _ _ _ => rfl, E2⟩
    · have hr1 := hM.1
      have hbit : bt (gi h 316 22) r = true := by
        have := (y_bit1 (by omega) (by omega)).mp c1
        rw [show (gi h 334 fn).toInt.toNat = r by omega] at this
        exact this
      have hPr := hK r hr hbit
      have he5 : e ≠ 5 := fun z => c2 (hmk (Or.inl z))
      have he6 : e ≠ 6 := fun z => c2 (hmk (Or.inr z))
      obtain ⟨m3, d3, o3, hm3, E3, E4⟩ := E_call (ar := ([.ref 316], [])) rfl rfl rfl rfl rfl rfl E2
      obtain ⟨⟨v1, v2, v3⟩, -⟩ := fr_EV hPu (11 - fn) 0 r hPr a a S0 L0 st0 e v S L st sr wi nr hev he5 he6
      obtain ⟨h3, rfl, g1, g2, g3⟩ := kn_ok (N := N) (ln := ln) (cd := cd) (fn := fn) (rm := rm) hG1 (by rw [gi_eq (f1 _ _ (by omega))]; exact ht) htn hV1 (by rw [gi_eq (f1 _ _ (by omega))]; exact hd) hfn (by rw [gi_eq (f1 _ _ (by omega))]; exact hrm) (by omega) hrm2 (fun h1 h' q hq hmf hfl => by
        obtain ⟨a1, a2, a3, a4, a5, a6, a7, a8, a9⟩ := hfl
        have k1 : ∀ b k, b < 322 ∨ 333 < b → ¬ (b = 316 ∧ k = 41) → gi h1 b k = gi h b k := fun b k z1 z2 => gi_eq ((hmf b k (fun z => by unfold mtb at z; omega)).trans (f1 b k z2))
        have k41 : gi h1 316 41 = v := by rw [gi_eq (hmf 316 41 (fun z => by unfold mtb at z; omega))]; exact e41
        obtain ⟨u1, u2, u3, u4, u5, u6, u7, u8⟩ := hM
        have hte2 : tel e = (e : Int) := by
          unfold tel
          rw [if_neg he6]
        refine ⟨r, e, wi, st - st0, v, nr, sr, ?_, fun b => ?_, fun b => ?_, ?_, ?_, by omega, ?_, by omega, ?_, by omega, b5, b6, fun a' S' L' k' st'' x1 x2 x3 x4 => ?_⟩
        · rw [a1, k1 334 fn (by omega) (by omega)]; exact u1
        · rw [a2, k1 340 fn (by omega) (by omega)]; exact u6 b
        · rw [a3, k1 341 fn (by omega) (by omega)]; exact u7 b
        · rw [a4, k41, k1 316 39 (by omega) (by omega), href, hte2]
          by_cases z : e = 0
          · rw [if_pos (by omega)]
          · rw [if_neg (by omega), b7 z]
        · rw [a5, k1 316 39 (by omega) (by omega), href, hte2]
        · rw [a6, k1 316 34 (by omega) (by omega), k1 339 fn (by omega) (by omega), y_subc hst u5 v3 (by omega)]
        · rw [a7, k1 342 fn (by omega) (by omega)]; exact u8
        · refine (fr_EV hPu (11 - fn) k' r hPr a a' S0 L0 st0 e v S L st sr wi nr hev he5 he6).2 S' L' st'' (fun i hi => ?_) (fun s hs => ?_) x3 x4
          · rw [x1 i hi, a8 i (b5 i hi) (by rw [k1 340 fn (by omega) (by omega), u6]; exact hi), k1 336 _ (by omega) (by omega)]
            exact u3 i (b5 i hi)
          · rw [x2 s hs, a9 s (b6 s hs) (by rw [k1 341 fn (by omega) (by omega), u7]; exact hs), k1 320 _ (by omega) (by omega), hW.1 s (b6 s hs), v1]) E3
      exact ⟨m3, h3, g1, g2, g3, E4⟩
  obtain ⟨m2, H2, hG2, hV2, f2, E2⟩ := s2
  -- the caller
  obtain ⟨m3, hm3, hG3, E3⟩ := ym_lv1 hG2 E2
  have f12 : ∀ b k, b < 322 ∨ 333 < b → ¬ (b = 320 ∨ b = 321) → ¬ (b = 316 ∧ (k = 41 ∨ k = 20)) → rk_get H2 b k = rk_get h b k := fun b k z1 z2 z3 => (f2 b k (fun z => by unfold mtb at z; omega) (by omega)).trans (f1 b k (by omega))
  have f12w : ∀ b k, b = 320 ∨ b = 321 → rk_get H2 b k = rk_get h b k := fun b k z => (f2 b k (by omega) (by omega)).trans (f1 b k (by omega))
  rw [ef, gi_eq (f12 342 fn (by omega) (by omega) (by omega)), gi_eq (f12 341 fn (by omega) (by omega) (by omega)), gi_eq (f12 316 24 (by omega) (by omega) (by omega))] at E3
  rw [gi_eq (f12 316 24 (by omega) (by omega) (by omega))] at hG3
  have e24 : (gi (rk_pt H2 316 24 (.int ((gi h 316 24) - (1 : Int32)))) 316 24).toInt = ((fn : Nat) : Int) := by
    rw [gi_s (yE_m hG2 (by decide)), y_subc hd (j := 1) rfl (by omega) (by omega)]
    omega
  have f3 : ∀ b k, ¬ (b = 316 ∧ k = 24) → rk_get (rk_pt H2 316 24 (.int ((gi h 316 24) - (1 : Int32)))) b k = rk_get H2 b k := fun b k z => rk_get_ne (by omega)
  generalize rk_pt H2 316 24 (.int ((gi h 316 24) - (1 : Int32))) = H3 at *
  obtain ⟨m4, d4, o4, hm4, E4, E5⟩ := E_call (ar := ([.ref 316, .int (gi h 341 fn), .int (gi h 342 fn)], [])) rfl rfl rfl rfl rfl rfl E3
  obtain ⟨u1, u2, u3, u4, u5, u6, u7, u8⟩ := id hM
  have fq : ∀ b k, mfq (fn - 1) b k → rk_get H3 b k = rk_get h b k := fun b k hb => (f3 b k (by unfold mfq at hb; omega)).trans (f12 b k (by unfold mfq at hb; omega) (by unfold mfq at hb; omega) (by unfold mfq at hb; omega))
  obtain ⟨h4, rfl, hG4, f4, hM4⟩ := arn_ok (c := cc) hG3 e24 (by omega) u8 (by omega) u7 (fun z => MFr_eq fq (hC z).1) E4
  have f14 : ∀ b k, b < 322 ∨ 333 < b → ¬ (b = 320 ∨ b = 321) → ¬ (b = 316 ∧ (k = 41 ∨ k = 20 ∨ k = 24)) → ¬ (1 ≤ fn ∧ (b = 341 ∨ b = 342) ∧ k = fn - 1) → rk_get h4 b k = rk_get h b k := fun b k z1 z2 z3 z4 => (f4 b k z4).trans ((f3 b k (by omega)).trans (f12 b k z1 z2 (by omega)))
  have hV4 : VM N ln cd tn h4 := VM_eq (fun b k z1 z2 => (f4 b k (by omega)).trans (f3 b k (by omega))) hV2
  have hW4 : MW tn h4 S L := MW_eq (fun b k z => (f4 b k (by omega)).trans ((f3 b k (by omega)).trans (f12w b k z))) hW
  have e41' : gi h4 316 41 = v := by rw [gi_eq (f4 _ _ (by omega)), gi_eq (f3 _ _ (by omega)), gi_eq (f2 _ _ (fun z => by unfold mtb at z; omega) (by omega))]; exact e41
  have hmf : mfr tn (fn - 1) h h4 := fun b k x1 x2 x3 => by
    refine (f4 b k (fun z => x3 ⟨by omega, by unfold mfp; omega⟩)).trans ((f3 b k (by omega)).trans ((f2 b k (fun z => x2 z.1) (by omega)).trans (f1 b k (by omega))))
  have e24' : (gi h4 316 24).toInt = ((fn : Nat) : Int) := by rw [gi_eq (f4 _ _ (by omega))]; exact e24
  have e39 : gi h4 316 39 = gi h 316 39 := gi_eq (f14 _ _ (by omega) (by omega) (by omega) (by omega))
  have e40 : gi h4 316 40 = gi h 316 40 := gi_eq (f14 _ _ (by omega) (by omega) (by omega) (by omega))
  have e34 : gi h4 316 34 = gi h 316 34 := gi_eq (f14 _ _ (by omega) (by omega) (by omega) (by omega))
  have A := ym_lv2 hG4 E5
  rw [e39, href, hte] at A
  rcases A with ⟨c1, -, rfl⟩ | ⟨c1, m5, hm5, -, E6⟩
  · refine ⟨h4, rfl, hG4, hV4, hW4, by rw [e34]; exact hst, by rw [e39]; exact href, fun z => by rw [e40]; exact hmk z, fun _ => e40, e24', e41', hmf, fun z => ?_⟩
    have := hM4 z
    unfold MC cjn
    unfold MC at this
    dsimp only at this ⊢
    rw [if_neg c1, if_neg c1]
    exact this
  · obtain ⟨m6, d6, o6, hm6, E7, E8⟩ := E_call (ar := ([.ref 316], [])) rfl rfl rfl rfl rfl rfl E6
    obtain ⟨h5, rfl, hG5, f5, hM5⟩ := com_ok (c := (cc.1, cc.2.1, cc.2.2.1, cc.2.2.2.1, cc.2.2.2.2.1, cc.2.2.2.2.2.1, eor cc.2.2.2.2.2.2.1 sr, max cc.2.2.2.2.2.2.2.1 (wi + 1), cc.2.2.2.2.2.2.2.2)) hG4 e24' (by omega) (fun z => ⟨hM4 z, (hC z).2⟩) E7
    obtain ⟨-, rfl⟩ := ym_lv3 hG5 E8
    refine ⟨h5, rfl, hG5, VM_eq (fun b k x1 x2 => f5 b k (by omega)) hV4, MW_eq (fun b k x => f5 b k (by omega)) hW4, ?_, ?_, fun z => ?_, fun _ => ?_, ?_, ?_, fun b k x1 x2 x3 => (f5 b k (fun z => x3 ⟨by omega, by unfold mfp; omega⟩)).trans (hmf b k x1 x2 x3), fun z => ?_⟩
    · rw [gi_eq (f5 _ _ (by omega)), e34]; exact hst
    · rw [gi_eq (f5 _ _ (by omega)), e39]; exact href
    · rw [gi_eq (f5 _ _ (by omega)), e40]; exact hmk z
    · rw [gi_eq (f5 _ _ (by omega)), e40]
    · rw [gi_eq (f5 _ _ (by omega))]; exact e24'
    · rw [gi_eq (f5 _ _ (by omega))]; exact e41'
    · have := hM5 z
      rw [e41'] at this
      unfold MC cjn
      unfold MC at this
      dsimp only at this ⊢
      rw [if_pos c1, if_pos c1]
      exact this
end RKMV
