/-! the reference: a step; its loop -/
section RKMO
variable {N : Nat} {ln : Nat → Nat} {cd : Nat → Nat → Int} {P : Nat → Prop} {tn : Nat}
theorem mst_ok {n d fn : Nat} {h : rk_S} {o : Option Value × rk_S} {r p sz st0 st wi : Nat} {rw a : eS} {nr sr : eB} {S : eS} {L : Int32} (hfn : fn < 12) (hrN : r < N) (hp : p < ln r) (hG : yG h) (hP : MP N ln cd h) (ht : (gi h 316 21).toInt = tn) (htn : tn < 2) (hd : (gi h 316 24).toInt = ((fn + 1 : Nat) : Int)) (hV : VM N ln cd tn h) (hst : (gi h 316 34).toInt = st) (hst2 : st ≤ 2000) (h39 : (gi h 316 39).toInt = 0) (hM : MFr h fn r p sz rw a nr sr wi st0) (hW : MW tn h S L) (E : rk_ex n d rm_X8_step 0 [(0, .ref 316)] [] h = some o) :
    (st = 2000 ∧ ∃ h', o = (none, h') ∧ yG h' ∧ (gi h' 316 39).toInt = 5 ∧ (gi h' 316 40).toInt = 0 ∧ ∀ b k, ¬ (b = 316 ∧ (k = 39 ∨ k = 40)) → rk_get h' b k = rk_get h b k) ∨
    (st < 2000 ∧ ∃ h1 h', o = (none, h') ∧ yG h' ∧ mfr tn fn h h1 ∧ gi h1 316 39 = gi h 316 39 ∧ gi h1 316 40 = gi h 316 40 ∧ gi h1 316 24 = gi h 316 24 ∧ (LO N ln cd tn fn r (p + 1) st0 a h1 h' (cst true N (EVe true N ln cd (11 - fn)) a (cd r p) sz rw nr sr wi S L (st + 1)) ∨ ∃ rn : Nat, cd r p = 400 + (rn : Int) ∧ 3 ≤ sz ∧ rn < N ∧ fn + 1 < 12 ∧ CO N ln cd tn fn rn (e3 (rw (sz - 3)) (rw (sz - 2)) (rw (sz - 1))) (r, p + 1, sz - 3, rw, a, nr, sr, wi, st0) S L (st + 1) h1 h')) := by
  have hf1 : ((gi h 316 24) - (1 : Int32)).toInt = ((fn : Nat) : Int) := by
    rw [y_subc hd (j := 1) rfl (by omega) (by omega)]
    omega
  obtain ⟨m1, m2, m3, ⟨m4, m4b, m4c⟩, m5, m6, m7, m8⟩ := id hM
  have hN := hP.2.1
  obtain ⟨l1, l2, l3⟩ := hP.2.2 r hrN
  obtain ⟨l4, l5⟩ := l3 p hp
  have A := ym_st hG E
  rw [y_ix hf1, y_ix (y_16 (c := 40) (cn := 40) rfl m1 m2 (by omega))] at A
  rcases A with ⟨c1, m, hm, hG1, E1⟩ | ⟨c1, hG1, rfl⟩
  · refine Or.inr ⟨by omega, ?_⟩
    have y34 := yE_m hG (k := 34) (by decide)
    obtain ⟨H, hH⟩ : ∃ H, H = rk_pt (rk_pt (rk_pt h 316 34 (.int ((gi h 316 34) + (1 : Int32)))) 316 35 (.int ((gi h 316 35) + (1 : Int32)))) 335 fn (.int ((gi h 335 fn) + (1 : Int32))) := ⟨_, rfl⟩
    rw [← hH] at hG1 E1
    have f1 : ∀ b k, ¬ (b = 316 ∧ (k = 34 ∨ k = 35)) → ¬ (b = 335 ∧ k = fn) → rk_get H b k = rk_get h b k := fun b k z1 z2 => by rw [hH, rk_get_ne (by omega), rk_get_ne (by omega), rk_get_ne (by omega)]
    have e34 : (gi H 316 34).toInt = ((st + 1 : Nat) : Int) := by rw [hH, gi_x (by decide), gi_y (by decide), gi_s y34, y_inc hst (by omega)]
    have e335 : (gi H 335 fn).toInt = ((p + 1 : Nat) : Int) := by rw [hH, gi_s (yE_pt.mpr (yE_pt.mpr (yE_f hG (by omega) hfn))), y_inc m2 (by omega)]
    have hMH : MFr H fn r (p + 1) sz rw a nr sr wi st0 := ⟨by rw [gi_eq (f1 _ _ (by omega) (by omega))]; exact m1, e335, fun i hi => by rw [gi_eq (f1 _ _ (by omega) (by omega))]; exact m3 i hi, ⟨by rw [gi_eq (f1 _ _ (by omega) (by omega))]; exact m4, m4b, fun i hi => by rw [gi_eq (f1 _ _ (by omega) (by omega))]; exact m4c i hi⟩, by rw [gi_eq (f1 _ _ (by omega) (by omega))]; exact m5, fun b => by rw [gi_eq (f1 _ _ (by omega) (by omega))]; exact m6 b, fun b => by rw [gi_eq (f1 _ _ (by omega) (by omega))]; exact m7 b, by rw [gi_eq (f1 _ _ (by omega) (by omega))]; exact m8⟩
    obtain ⟨h', e1, g0, g⟩ := msc_ok (f := (gi h 316 24) - (1 : Int32)) (cz := cd r p) hf1 hfn (by omega) l2 hrN l4 l5 hG1 (MP_eq (fun b k z => f1 b k (by omega) (by omega)) hP) (by rw [gi_eq (f1 _ _ (by omega) (by omega))]; exact ht) htn (by rw [gi_eq (f1 _ _ (by omega) (by omega))]; exact hd) (VM_eq (fun b k z1 z2 => f1 b k (by omega) (by omega)) hV) e34 (by omega) (by rw [gi_eq (f1 _ _ (by omega) (by omega))]; exact h39) hMH (MW_eq (fun b k z => f1 b k (by omega) (by omega)) hW) E1
    exact ⟨H, h', e1, g0, fun b k x1 x2 x3 => f1 b k (by omega) (fun z => x3 ⟨by omega, by unfold mfp; omega⟩), gi_eq (f1 _ _ (by omega) (by omega)), gi_eq (f1 _ _ (by omega) (by omega)), gi_eq (f1 _ _ (by omega) (by omega)), g⟩
  · refine Or.inl ⟨by omega, _, rfl, hG1, ?_, ?_, fun b k z => (rk_get_ne (by omega)).trans (rk_get_ne (by omega))⟩
    · rw [gi_y (by decide), gi_s (yE_m hG (by decide))]; rfl
    · rw [gi_s (yE_pt.mpr (yE_m hG (by decide)))]; rfl
end RKMO
