/-! the reference: one code -/
/-- a code was done within the frame fn -/
def LO (N : Nat) (ln : Nat → Nat) (cd : Nat → Nat → Int) (tn fn r p0 st0 : Nat) (a : eS) (h h' : rk_S) (q : Nat × Nat × eT) : Prop := yG h' ∧ VM N ln cd tn h' ∧ MFr h' fn r (min (p0 + q.2.1) (ln r)) q.2.2.1 q.2.2.2.1 a q.2.2.2.2.1 q.2.2.2.2.2.1 q.2.2.2.2.2.2.1 st0 ∧ MW tn h' q.2.2.2.2.2.2.2.1 q.2.2.2.2.2.2.2.2.1 ∧ (gi h' 316 34).toInt = q.2.2.2.2.2.2.2.2.2 ∧ (gi h' 316 39).toInt = tel q.1 ∧ ((q.1 = 5 ∨ q.1 = 6) → (gi h' 316 40).toInt = 0) ∧ (¬ (q.1 = 5 ∨ q.1 = 6) → gi h' 316 40 = gi h 316 40) ∧ gi h' 316 24 = gi h 316 24 ∧ mfr tn fn h h'
section RKMS
variable {N : Nat} {ln : Nat → Nat} {cd : Nat → Nat → Int} {tn : Nat} {n d fn : Nat} {h : rk_S} {o : Option Value × rk_S} {r p0 sz st0 st wi : Nat} {rw a : eS} {nr sr : eB} {S : eS} {L : Int32}
theorem LO_gen {h' : rk_S} {e k sz' wi' : Nat} {rw' : eS} {nr' sr' : eB} {S' : eS} {L' : Int32} (he : e ≤ 4) (hG' : yG h') (hV : VM N ln cd tn h) (hst : (gi h 316 34).toInt = st) (hM' : MFr h' fn r (min (p0 + k) (ln r)) sz' rw' a nr' sr' wi' st0) (hW' : MW tn h' S' L') (h39 : (gi h' 316 39).toInt = e) (hf : ∀ b k, ¬ mfq fn b k → ¬ (b = 320 ∧ 16 * tn ≤ k ∧ k < 16 * tn + 16) → ¬ (b = 321 ∧ k = tn) → ¬ (b = 316 ∧ k = 39) → rk_get h' b k = rk_get h b k) : LO N ln cd tn fn r p0 st0 a h h' (e, k, sz', rw', nr', sr', wi', S', L', st) := by
  refine ⟨hG', VM_eq (fun b k z1 z2 => hf b k (by unfold mfq; omega) (by omega) (by omega) (by omega)) hV, hM', hW', ?_, ?_, fun z => ?_, fun _ => ?_, ?_, fun b k x1 x2 x3 => hf b k (fun z => x3 ⟨?_, ?_⟩) (fun z => x2 ?_) (fun z => x2 ?_) (by omega)⟩
  · rw [gi_eq (hf _ _ (by unfold mfq; omega) (by omega) (by omega) (by omega))]; exact hst
  · unfold tel
    dsimp only
    rw [if_neg (by omega)]
    exact h39
  · dsimp only at z
    omega
  · exact gi_eq (hf _ _ (by unfold mfq; omega) (by omega) (by omega) (by omega))
  · exact gi_eq (hf _ _ (by unfold mfq; omega) (by omega) (by omega) (by omega))
  · unfold mfq at z; omega
  · unfold mfq at z; unfold mfp; omega
  · unfold mtb; omega
  · unfold mtb; omega
theorem LO_ref {w : Int32} {e : Nat} (he : e ≤ 4) (hw : w.toInt = e) (hp0 : p0 ≤ ln r) (hG : yG h) (hG' : yG (rk_pt h 316 39 (.int w))) (hV : VM N ln cd tn h) (hM : MFr h fn r p0 sz rw a nr sr wi st0) (hW : MW tn h S L) (hst : (gi h 316 34).toInt = st) : LO N ln cd tn fn r p0 st0 a h (rk_pt h 316 39 (.int w)) (e, 0, sz, rw, nr, sr, wi, S, L, st) := by
  have f : ∀ b k, ¬ (b = 316 ∧ k = 39) → rk_get (rk_pt h 316 39 (.int w)) b k = rk_get h b k := fun b k z => rk_get_ne (by omega)
  exact LO_gen he hG' hV hst (by rw [Nat.add_zero, Nat.min_eq_left hp0]; exact MFr_eq (fun b k hb => f b k (by unfold mfq at hb; omega)) hM) (MW_eq (fun b k z => f b k (by omega)) hW) (by rw [gi_s (yE_m hG (by decide))]; exact hw) (fun b k _ _ _ z => f b k z)
/-- one value more, or the row is full; what was read is counted first -/
theorem LO_put {H : rk_S} {f v : Int32} {nr' sr' : eB} {cz : Int} {S' : eS} {L' : Int32} (hf : f.toInt = fn) (hfn : fn < 12) (hp0 : p0 ≤ ln r) (hG1 : yG H) (hV : VM N ln cd tn h) (hst : (gi h 316 34).toInt = st) (h39 : (gi h 316 39).toInt = 0) (hM1 : MFr H fn r p0 sz rw a nr' sr' wi st0) (hW1 : MW tn H S' L') (f1 : ∀ b k, ¬ mfq fn b k → ¬ (b = 320 ∧ 16 * tn ≤ k ∧ k < 16 * tn + 16) → ¬ (b = 321 ∧ k = tn) → rk_get H b k = rk_get h b k) (E : rk_ex n d rm_X8_put 0 [(0, .ref 316), (1, .int f), (2, .int v)] [] H = some o) : ∃ h', o = (none, h') ∧ yG h' ∧ ((sz < 20 ∧ LO N ln cd tn fn r p0 st0 a h h' (0, 0, sz + 1, eup rw sz v, nr', sr', wi, S', L', st)) ∨ (¬ sz < 20 ∧ LO N ln cd tn fn r p0 st0 a h h' (2, 0, sz, rw, nr', sr', wi, S', L', st))) := by
  rcases mput_ok hG1 hf hfn hM1 E with ⟨c1, h', rfl, g1, g2, g3⟩ | ⟨c1, h', rfl, g1, g2, g3⟩
  · refine ⟨h', rfl, g1, Or.inl ⟨c1, LO_gen (by omega) g1 hV hst (by rw [Nat.add_zero, Nat.min_eq_left hp0]; exact g2) (MW_eq (fun b k z => g3 b k (by omega) (by omega)) hW1) ?_ (fun b k z1 z2 z3 _ => (g3 b k (fun z => z1 (by unfold mfq; omega)) (fun z => z1 (by unfold mfq; omega))).trans (f1 b k z1 z2 z3))⟩⟩
    rw [gi_eq (g3 _ _ (by omega) (by omega)), gi_eq (f1 _ _ (by unfold mfq; omega) (by omega) (by omega))]
    exact h39
  · exact ⟨h', rfl, g1, Or.inr ⟨c1, LO_gen (by omega) g1 hV hst (by rw [Nat.add_zero, Nat.min_eq_left hp0]; exact MFr_eq (fun b k hb => g3 b k (by unfold mfq at hb; omega)) hM1) (MW_eq (fun b k z => g3 b k (by omega)) hW1) g2 (fun b k z1 z2 z3 z4 => (g3 b k z4).trans (f1 b k z1 z2 z3))⟩⟩
/-- two become one -/
theorem LO_two {v : Int32} (hfn : fn < 12) (h2 : 2 ≤ sz) (hp0 : p0 ≤ ln r) (hG : yG h) (hG' : yG (rk_pt (rk_pt h 337 fn (.int ((gi h 337 fn) - (1 : Int32)))) 338 (20 * fn + (sz - 2)) (.int v))) (hV : VM N ln cd tn h) (hst : (gi h 316 34).toInt = st) (h39 : (gi h 316 39).toInt = 0) (hM : MFr h fn r p0 sz rw a nr sr wi st0) (hW : MW tn h S L) : LO N ln cd tn fn r p0 st0 a h (rk_pt (rk_pt h 337 fn (.int ((gi h 337 fn) - (1 : Int32)))) 338 (20 * fn + (sz - 2)) (.int v)) (0, 0, sz - 1, eup rw (sz - 2) v, nr, sr, wi, S, L, st) := by
  obtain ⟨m1, m2, m3, ⟨m4, m4b, m4c⟩, m5, m6, m7, m8⟩ := hM
  have f : ∀ b k, ¬ (b = 338 ∧ k = 20 * fn + (sz - 2)) → ¬ (b = 337 ∧ k = fn) → rk_get (rk_pt (rk_pt h 337 fn (.int ((gi h 337 fn) - (1 : Int32)))) 338 (20 * fn + (sz - 2)) (.int v)) b k = rk_get h b k := fun b k z1 z2 => (rk_get_ne (by omega)).trans (rk_get_ne (by omega))
  refine LO_gen (by omega) hG' hV hst ?_ (MW_eq (fun b k z => f b k (by omega) (by omega)) hW) (by rw [gi_eq (f _ _ (by omega) (by omega))]; exact h39) (fun b k z1 z2 z3 _ => f b k (fun z => z1 (by unfold mfq; omega)) (fun z => z1 (by unfold mfq; omega)))
  rw [Nat.add_zero, Nat.min_eq_left hp0]
  refine ⟨by rw [gi_eq (f _ _ (by omega) (by omega))]; exact m1, by rw [gi_eq (f _ _ (by omega) (by omega))]; exact m2, fun i hi => by rw [gi_eq (f _ _ (by omega) (by omega))]; exact m3 i hi, ⟨?_, by omega, fun i hi => ?_⟩, by rw [gi_eq (f _ _ (by omega) (by omega))]; exact m5, fun b => by rw [gi_eq (f _ _ (by omega) (by omega))]; exact m6 b, fun b => by rw [gi_eq (f _ _ (by omega) (by omega))]; exact m7 b, by rw [gi_eq (f _ _ (by omega) (by omega))]; exact m8⟩
  · rw [gi_x (by decide), gi_s (yE_f hG (by omega) hfn), y_subc m4 (j := 1) rfl (by omega) (by omega)]
  · by_cases e : i = sz - 2
    · subst e
      rw [gi_s (yE_pt.mpr (yE_338 hG (by omega))), eup_self]
    · rw [gi_eq (f _ _ (by omega) (by omega)), eup_ne _ _ e]
      exact m4c i (by omega)
/-- one less -/
theorem MFr_pop {p : Nat} (hfn : fn < 12) (h1 : 1 ≤ sz) (hG : yG h) (hM : MFr h fn r p sz rw a nr sr wi st0) : MFr (rk_pt h 337 fn (.int ((gi h 337 fn) - (1 : Int32)))) fn r p (sz - 1) rw a nr sr wi st0 := by
  obtain ⟨m1, m2, m3, ⟨m4, m4b, m4c⟩, m5, m6, m7, m8⟩ := hM
  have f : ∀ b k, ¬ (b = 337 ∧ k = fn) → rk_get (rk_pt h 337 fn (.int ((gi h 337 fn) - (1 : Int32)))) b k = rk_get h b k := fun b k z2 => rk_get_ne (by omega)
  exact ⟨by rw [gi_eq (f _ _ (by omega))]; exact m1, by rw [gi_eq (f _ _ (by omega))]; exact m2, fun i hi => by rw [gi_eq (f _ _ (by omega))]; exact m3 i hi, ⟨by rw [gi_s (yE_f hG (by omega) hfn), y_subc m4 (j := 1) rfl (by omega) (by omega)], by omega, fun i hi => by rw [gi_eq (f _ _ (by omega))]; exact m4c i (by omega)⟩, by rw [gi_eq (f _ _ (by omega))]; exact m5, fun b => by rw [gi_eq (f _ _ (by omega))]; exact m6 b, fun b => by rw [gi_eq (f _ _ (by omega))]; exact m7 b, by rw [gi_eq (f _ _ (by omega))]; exact m8⟩
theorem mac2_ok {ent : Option eE} {f x : Int32} {cz : Int} (hf : f.toInt = fn) (hfn : fn < 12) (hp0 : p0 ≤ ln r) (hx : x.toInt = cz - 500) (hz : 500 ≤ cz) (hz2 : cz < 509) (hn1 : cz = 506 ∨ cz = 507 → 1 ≤ sz) (hn2 : cz < 506 → 2 ≤ sz) (hG : yG h) (ht : (gi h 316 21).toInt = tn) (htn : tn < 2) (hV : VM N ln cd tn h) (hst : (gi h 316 34).toInt = st) (h39 : (gi h 316 39).toInt = 0) (hM : MFr h fn r p0 sz rw a nr sr wi st0) (hW : MW tn h S L) (E : rk_ex n d rm_X8_acts 0 [(0, .ref 316), (1, .int f), (2, .int x)] [] h = some o) : ∃ h', o = (none, h') ∧ LO N ln cd tn fn r p0 st0 a h h' (cst true N ent a cz sz rw nr sr wi S L st) := by
  have m4 := hM.2.2.2.1.1
  have m4b := hM.2.2.2.1.2.1
  have m4c := hM.2.2.2.1.2.2
  have et := y_ix ht
  have y321 : yE 321 tn h := hG.yE (by decide) (by decide) (by rw [yln_m.2.2.2.2.2.1]; exact htn)
  have A := ym_ac hG (by rw [et]; exact y321) E
  rw [y_ix hf, et] at A
  unfold cst
  rw [if_neg (by omega), if_neg (by omega), if_neg (by omega), if_neg (by omega), if_neg (by omega)]
  have k1 : 1 ≤ sz → ((20 : Int32) * f + (gi h 337 fn) - (1 : Int32)).toInt = ((20 * fn + (sz - 1) : Nat) : Int) := fun z => by
    rw [y_subc (y_20 hf m4 (by omega) (by omega)) (j := 1) rfl (by omega) (by omega)]
    omega
  have k2 : 2 ≤ sz → ((20 : Int32) * f + (gi h 337 fn) - (1 : Int32) - (1 : Int32)).toInt = ((20 * fn + (sz - 2) : Nat) : Int) := fun z => by
    rw [y_subc (k1 (by omega)) (j := 1) rfl (by omega) (by omega)]
    omega
  by_cases hb : cz < 506
  · have h2 := hn2 hb
    rw [y_ix (k2 h2), y_ix (k1 (by omega)), m4c (sz - 2) (by omega), m4c (sz - 1) (by omega)] at A
    rw [if_pos hb, if_neg (by omega)]
    have two : ∀ {v : Int32}, ¬ (cz = 503 ∧ (rw (sz - 1)).toInt = 0) → eop cz (rw (sz - 2)) (rw (sz - 1)) = v → yG (rk_pt (rk_pt h 337 fn (.int ((gi h 337 fn) - (1 : Int32)))) 338 (20 * fn + (sz - 2)) (.int v)) → LO N ln cd tn fn r p0 st0 a h (rk_pt (rk_pt h 337 fn (.int ((gi h 337 fn) - (1 : Int32)))) 338 (20 * fn + (sz - 2)) (.int v)) (if cz = 503 ∧ (rw (sz - 1)).toInt = 0 then (3, 0, sz, rw, nr, sr, wi, S, L, st) else (0, 0, sz - 1, eup rw (sz - 2) (eop cz (rw (sz - 2)) (rw (sz - 1))), nr, sr, wi, S, L, st)) := by
      intro v z1 z2 z3
      rw [if_neg z1, z2]
      exact LO_two hfn h2 hp0 hG z3 hV hst h39 hM hW
    rcases A with ⟨q1, q2, q3, q4, q5, q6, q7, q8, q9, hG', rfl⟩ | ⟨q1, q2, q3, q4, q5, q6, q7, q8, q9, hG', rfl⟩ | ⟨q1, q2, q3, q4, q5, q6, q7, q8, q9, hG', rfl⟩ | ⟨q1, q2, q3, q4, q5, q6, q7, q8, q9, hG', rfl⟩ | ⟨q1, q2, q3, q4, q5, q6, q7, hG', rfl⟩ | ⟨q1, q2, q3, q4, q5, q6, hG', rfl⟩ | ⟨q1, q2, q3, q4, q5, hG', rfl⟩ | ⟨q1, q2, q3, q4, q5, hG', rfl⟩ | ⟨q1, q2, q3, q4, q5, hG', rfl⟩ | ⟨q1, q2, q3, -⟩ | ⟨q1, q2, -⟩ | ⟨q1, -⟩ | ⟨q1, -⟩
    · have hc : cz = 505 := by omega
      subst hc
      exact ⟨_, rfl, two (by omega) (by unfold eop; rw [if_neg (by decide), if_neg (by decide), if_neg (by decide), if_neg (by decide), if_neg (by decide), if_neg q9]) hG'⟩
    · have hc : cz = 505 := by omega
      subst hc
      exact ⟨_, rfl, two (by omega) (by unfold eop; rw [if_neg (by decide), if_neg (by decide), if_neg (by decide), if_neg (by decide), if_neg (by decide), if_pos q9]) hG'⟩
    · have hc : cz = 504 := by omega
      subst hc
      exact ⟨_, rfl, two (by omega) (by unfold eop; rw [if_neg (by decide), if_neg (by decide), if_neg (by decide), if_neg (by decide), if_pos rfl, if_neg (by omega)]) hG'⟩
    · have hc : cz = 504 := by omega
      subst hc
      exact ⟨_, rfl, two (by omega) (by unfold eop; rw [if_neg (by decide), if_neg (by decide), if_neg (by decide), if_neg (by decide), if_pos rfl, if_pos (by omega)]) hG'⟩
    · have hc : cz = 502 := by omega
      subst hc
      exact ⟨_, rfl, two (by omega) (by unfold eop; rw [if_neg (by decide), if_neg (by decide), if_pos rfl]) hG'⟩
    · have hc : cz = 501 := by omega
      subst hc
      exact ⟨_, rfl, two (by omega) (by unfold eop; rw [if_neg (by decide), if_pos rfl]) hG'⟩
    · have hc : cz = 500 := by omega
      subst hc
      exact ⟨_, rfl, two (by omega) (by unfold eop; rw [if_pos rfl]) hG'⟩
    · have hc : cz = 503 := by omega
      subst hc
      exact ⟨_, rfl, two (fun z => q5 z.2) (by unfold eop; rw [if_neg (by decide), if_neg (by decide), if_neg (by decide), if_pos rfl]) hG'⟩
    · have hc : cz = 503 := by omega
      subst hc
      rw [if_pos ⟨rfl, q5⟩]
      exact ⟨_, rfl, LO_ref (by omega) rfl hp0 hG hG' hV hM hW hst⟩
    · omega
    · omega
    · omega
    · omega
  · rw [if_neg hb]
    rcases A with ⟨q1, q2, q3, q4, q5, q6, q7, q8, -⟩ | ⟨q1, q2, q3, q4, q5, q6, q7, q8, -⟩ | ⟨q1, q2, q3, q4, q5, q6, q7, q8, -⟩ | ⟨q1, q2, q3, q4, q5, q6, q7, q8, -⟩ | ⟨q1, q2, q3, q4, q5, q6, q7, -⟩ | ⟨q1, q2, q3, q4, q5, q6, -⟩ | ⟨q1, q2, q3, q4, q5, -⟩ | ⟨q1, q2, q3, q4, -⟩ | ⟨q1, q2, q3, q4, -⟩ | ⟨q1, q2, q3, hG', rfl⟩ | ⟨q1, q2, m, hm, -, E1⟩ | ⟨q1, q2, m, hm, hG1, E1⟩ | ⟨q1, q2, hG', rfl⟩
    · omega
    · omega
    · omega
    · omega
    · omega
    · omega
    · omega
    · omega
    · omega
    · have h1 := hn1 (by omega)
      rw [if_pos (by omega), if_neg (by omega)]
      have f : ∀ b k, ¬ (b = 337 ∧ k = fn) → rk_get (rk_pt h 337 fn (.int ((gi h 337 fn) - (1 : Int32)))) b k = rk_get h b k := fun b k z => rk_get_ne (by omega)
      exact ⟨_, rfl, LO_gen (by omega) hG' hV hst (by rw [Nat.add_zero, Nat.min_eq_left hp0]; exact MFr_pop hfn h1 hG hM) (MW_eq (fun b k z => f b k (by omega)) hW) (by rw [gi_eq (f _ _ (by omega))]; exact h39) (fun b k z1 _ _ _ => f b k (fun z => z1 (by unfold mfq; omega)))⟩
    · have h1 := hn1 (by omega)
      rw [if_neg (by omega), if_pos (by omega), if_neg (by omega)]
      obtain ⟨m1, d1, o1, hm1, E2, E3⟩ := E_call (ar := ([.ref 316, .int f, .int (gi h 338 ((20 : Int32) * f + (gi h 337 fn) - (1 : Int32)).toNatClampNeg)], [])) rfl rfl rfl rfl rfl rfl E1
      rw [y_ix (k1 h1), m4c (sz - 1) (by omega)] at E2
      obtain ⟨h', rfl, g0, g⟩ := LO_put (cz := cz) (h := h) hf hfn hp0 hG hV hst h39 hM hW (fun _ _ _ _ _ => rfl) E2
      obtain ⟨-, rfl⟩ := ym_ar99 g0 E3
      rcases g with ⟨z, g⟩ | ⟨z, g⟩
      · rw [if_pos z]
        exact ⟨h', rfl, g⟩
      · rw [if_neg z]
        exact ⟨h', rfl, g⟩
    · rw [if_neg (by omega), if_neg (by omega), if_pos (by omega), if_pos (by omega)]
      rw [gi_s y321, hW.2] at E1
      obtain ⟨m1, d1, o1, hm1, E2, E3⟩ := E_call (ar := ([.ref 316, .int f, .int (edrw (elot L))], [])) rfl rfl rfl rfl rfl (by unfold edrw elot; rw [Int32.mul_comm 69069 L]; rfl) E1
      have f1 : ∀ {v : Value} b k, ¬ (b = 321 ∧ k = tn) → rk_get (rk_pt h 321 tn v) b k = rk_get h b k := fun b k z => rk_get_ne (by omega)
      obtain ⟨h', rfl, g0, g⟩ := LO_put (cz := cz) (h := h) (S' := S) (L' := elot L) hf hfn hp0 (by rw [hW.2] at hG1; exact hG1) hV hst h39 (MFr_eq (fun b k hb => f1 b k (by unfold mfq at hb; omega)) hM) ⟨fun s hs => by rw [gi_eq (f1 _ _ (by omega))]; exact hW.1 s hs, by rw [gi_s y321]; unfold elot; rw [Int32.mul_comm]⟩ (fun b k _ _ z => f1 b k z) E2
      obtain ⟨-, rfl⟩ := ym_ar79 g0 E3
      rcases g with ⟨z, g⟩ | ⟨z, g⟩
      · exact ⟨h', rfl, g⟩
      · omega
    · rw [if_neg (by omega), if_neg (by omega), if_pos (by omega), if_neg (by omega)]
      exact ⟨_, rfl, LO_ref (by omega) rfl hp0 hG hG' hV hM hW hst⟩
end RKMS
