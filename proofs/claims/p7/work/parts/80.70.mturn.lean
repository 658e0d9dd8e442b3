/-! the reference: one turn of its loop -/
section RKMT
variable {N : Nat} {ln : Nat → Nat} {cd : Nat → Nat → Int} {tn : Nat} {n d fn : Nat} {h : rk_S} {o : Option Value × rk_S} {r p0 sz st0 st wi : Nat} {rw a : eS} {nr sr : eB} {S : eS} {L : Int32}
/-- a call was entered: a frame more, or a kept answer -/
def CO (N : Nat) (ln : Nat → Nat) (cd : Nat → Nat → Int) (tn fn rn : Nat) (a2 : eS) (cc : eC) (S : eS) (L : Int32) (st : Nat) (h h' : rk_S) : Prop := (yG h' ∧ VM N ln cd tn h' ∧ MW tn h' S L ∧ MC h' fn cc ∧ MFr h' (fn + 1) rn 0 0 e0 a2 eNo eNo 0 st ∧ (gi h' 316 24).toInt = ((fn + 2 : Nat) : Int) ∧ (gi h' 316 34).toInt = st ∧ gi h' 316 39 = gi h 316 39 ∧ gi h' 316 40 = gi h 316 40 ∧ mfr tn fn h h') ∨ ∃ h1, RT N ln cd tn (fn + 1) cc h1 h' (EV true N ln cd (11 - (fn + 1)) rn a2 S L st) ∧ mfr tn fn h h1 ∧ gi h1 316 40 = gi h 316 40
theorem mcl_ok {f x : Int32} {rn : Nat} (hf : f.toInt = fn) (hfn : fn < 12) (hp0 : p0 ≤ ln r) (hx : x.toInt = rn) (hrn : rn < 10) (h3 : 3 ≤ sz) (hG : yG h) (hP : MP N ln cd h) (ht : (gi h 316 21).toInt = tn) (htn : tn < 2) (hd : (gi h 316 24).toInt = ((fn + 1 : Nat) : Int)) (hV : VM N ln cd tn h) (hst : (gi h 316 34).toInt = st) (hst2 : st ≤ 2000) (hM : MFr h fn r p0 sz rw a nr sr wi st0) (hW : MW tn h S L) (E : rk_ex n d rm_X8_calls 0 [(0, .ref 316), (1, .int f), (2, .int x)] [] h = some o) : ∃ h', o = (none, h') ∧ yG h' ∧ (LO N ln cd tn fn r p0 st0 a h h' (cst true N (EVe true N ln cd (11 - fn)) a (400 + (rn : Int)) sz rw nr sr wi S L st) ∨ (rn < N ∧ fn + 1 < 12 ∧ CO N ln cd tn fn rn (e3 (rw (sz - 3)) (rw (sz - 2)) (rw (sz - 1))) (r, p0, sz - 3, rw, a, nr, sr, wi, st0) S L st h h')) := by
  obtain ⟨m1, m2, m3, ⟨m4, m4b, m4c⟩, m5, m6, m7, m8⟩ := id hM
  have hN := hP.1
  have hN2 := hP.2.1
  have y337 := yE_f hG (b := 337) (k := fn) (by omega) hfn
  have A := ym_cl hG (by rw [y_ix hf]; exact y337) E
  have hc0 : (400 + (rn : Int) - 400).toNat = rn := by omega
  rw [y_ix hf] at A
  have t3 : ((gi h 337 fn) - (3 : Int32)).toInt = ((sz - 3 : Nat) : Int) := y_subc m4 (j := 3) rfl h3 (by omega)
  have t0 := y_20 hf t3 (by omega) (by omega)
  have t1 : ((20 : Int32) * f + ((gi h 337 fn) - (3 : Int32)) + (1 : Int32)).toInt = ((20 * fn + (sz - 3) + 1 : Nat) : Int) := y_addc t0 (j := 1) rfl (by omega)
  have t2 : ((20 : Int32) * f + ((gi h 337 fn) - (3 : Int32)) + (2 : Int32)).toInt = ((20 * fn + (sz - 3) + 2 : Nat) : Int) := y_addc t0 (j := 2) rfl (by omega)
  have hn1 : ((gi h 316 0) - (1 : Int32)).toInt = (N : Int) - 1 := by
    rw [Int32.toInt_sub, hN, show (1 : Int32).toInt = 1 from rfl, rk_bm (by omega) (by omega)]
  rw [hn1] at A
  have four : ∀ (hG' : yG (rk_pt h 316 39 (.int (4 : Int32)))), N ≤ rn → LO N ln cd tn fn r p0 st0 a h (rk_pt h 316 39 (.int (4 : Int32))) (cst true N (EVe true N ln cd (11 - fn)) a (400 + (rn : Int)) sz rw nr sr wi S L st) := by
    intro hG' hle
    unfold cst
    rw [if_neg (by omega), if_neg (by omega), if_neg (by omega), if_neg (by omega), if_pos (by omega), hc0, if_neg (by omega), if_pos hle]
    exact LO_ref (by omega) rfl hp0 hG hG' hV hM hW hst
  rcases A with ⟨c1, -⟩ | ⟨c1, c2, hG', rfl⟩ | ⟨c1, c2, c3, m, hm, hG1, E1⟩ | ⟨c1, c2, c3, hG', rfl⟩
  · omega
  · exact ⟨_, rfl, hG', Or.inl (four hG' (by omega))⟩
  · rw [y_ix t0, y_ix t1, y_ix t2, m4c (sz - 3) (by omega), show 20 * fn + (sz - 3) + 1 = 20 * fn + (sz - 2) by omega, show 20 * fn + (sz - 3) + 2 = 20 * fn + (sz - 1) by omega, m4c (sz - 2) (by omega), m4c (sz - 1) (by omega)] at E1
    have f1 : ∀ b k, ¬ (b = 337 ∧ k = fn) → rk_get (rk_pt h 337 fn (.int ((gi h 337 fn) - (3 : Int32)))) b k = rk_get h b k := fun b k z => rk_get_ne (by omega)
    have a337 : (gi (rk_pt h 337 fn (.int ((gi h 337 fn) - (3 : Int32)))) 337 fn).toInt = ((sz - 3 : Nat) : Int) := by rw [gi_s y337]; exact t3
    generalize rk_pt h 337 fn (.int ((gi h 337 fn) - (3 : Int32))) = H at *
    have hMH : MC H fn (r, p0, sz - 3, rw, a, nr, sr, wi, st0) := ⟨by rw [gi_eq (f1 _ _ (by omega))]; exact m1, by rw [gi_eq (f1 _ _ (by omega))]; exact m2, fun i hi => by rw [gi_eq (f1 _ _ (by omega))]; exact m3 i hi, ⟨a337, by dsimp only; omega, fun i hi => by rw [gi_eq (f1 _ _ (by omega))]; exact m4c i (by dsimp only at hi; omega)⟩, by rw [gi_eq (f1 _ _ (by omega))]; exact m5, fun b => by rw [gi_eq (f1 _ _ (by omega))]; exact m6 b, fun b => by rw [gi_eq (f1 _ _ (by omega))]; exact m7 b, by rw [gi_eq (f1 _ _ (by omega))]; exact m8⟩
    have mH : mfr tn fn h H := fun b k _ _ x3 => f1 b k (fun z => x3 ⟨by omega, by unfold mfp; omega⟩)
    obtain ⟨m1', d1, o1, hm1, E2, E3⟩ := E_call (ar := ([.ref 316, .int x, .int (rw (sz - 3)), .int (rw (sz - 2)), .int (rw (sz - 1))], [])) rfl rfl rfl rfl rfl rfl E1
    have hdH : (gi H 316 24).toInt = ((fn + 1 : Nat) : Int) := by rw [gi_eq (f1 _ _ (by omega))]; exact hd
    have hVH : VM N ln cd tn H := VM_eq (fun b k _ _ => f1 b k (by omega)) hV
    have hWH : MW tn H S L := MW_eq (fun b k _ => f1 b k (by omega)) hW
    have hstH : (gi H 316 34).toInt = st := by rw [gi_eq (f1 _ _ (by omega))]; exact hst
    rcases men_ok (cc := (r, p0, sz - 3, rw, a, nr, sr, wi, st0)) hG1 (by rw [gi_eq (f1 _ _ (by omega))]; exact ht) htn hVH hdH (by omega) hx hrn hWH hstH hst2 (fun _ => ⟨hMH, by dsimp only; omega⟩) E2 with ⟨h', rfl, g1, g2, g3, g4⟩ | ⟨h', rfl, g⟩
    · obtain ⟨-, rfl⟩ := ym_cl2 g1 E3
      refine ⟨h', rfl, g1, Or.inr ⟨by omega, by omega, Or.inl ⟨g1, VM_eq (fun b k z1 z2 => g4 b k (by omega) (by unfold mfq; omega)) hVH, MW_eq (fun b k z => g4 b k (by omega) (by unfold mfq; omega)) hWH, MFr_eq (fun b k hb => g4 b k (by unfold mfq at hb; omega) (by unfold mfq at hb ⊢; omega)) hMH, g2, g3, ?_, ?_, ?_, fun b k x1 x2 x3 => (g4 b k (by omega) (fun z => x3 ⟨by unfold mfq at z; omega, by unfold mfq at z; unfold mfp; omega⟩)).trans (mH b k x1 x2 x3)⟩⟩⟩
      · rw [gi_eq (g4 _ _ (by omega) (by unfold mfq; omega))]; exact hstH
      · rw [gi_eq (g4 _ _ (by omega) (by unfold mfq; omega)), gi_eq (f1 _ _ (by omega))]
      · rw [gi_eq (g4 _ _ (by omega) (by unfold mfq; omega)), gi_eq (f1 _ _ (by omega))]
    · obtain ⟨-, rfl⟩ := ym_cl2 g.1 E3
      exact ⟨h', rfl, g.1, Or.inr ⟨by omega, by omega, Or.inr ⟨H, g, mH, gi_eq (f1 _ _ (by omega))⟩⟩⟩
  · refine ⟨_, rfl, hG', Or.inl ?_⟩
    unfold cst
    rw [if_neg (by omega), if_neg (by omega), if_neg (by omega), if_neg (by omega), if_pos (by omega), hc0, if_neg (by omega), if_neg (by omega), show 11 - fn = 0 by omega]
    show LO N ln cd tn fn r p0 st0 a h _ (6, 0, sz, rw, nr, sr, wi, S, L, st)
    have f : ∀ b k, ¬ (b = 316 ∧ (k = 39 ∨ k = 40)) → rk_get (rk_pt (rk_pt h 316 39 (.int (4 : Int32))) 316 40 (.int (0 : Int32))) b k = rk_get h b k := fun b k z => (rk_get_ne (by omega)).trans (rk_get_ne (by omega))
    refine ⟨hG', VM_eq (fun b k z1 z2 => f b k (by omega)) hV, ?_, MW_eq (fun b k z => f b k (by omega)) hW, ?_, ?_, fun _ => ?_, fun z => absurd (Or.inr rfl) z, gi_eq (f _ _ (by omega)), fun b k x1 x2 x3 => f b k (by omega)⟩
    · dsimp only
      rw [Nat.add_zero, Nat.min_eq_left hp0]
      exact MFr_eq (fun b k hb => f b k (by unfold mfq at hb; omega)) hM
    · rw [gi_eq (f _ _ (by omega))]; exact hst
    · rw [gi_y (by decide), gi_s (yE_m hG (by decide))]; rfl
    · rw [gi_s (yE_pt.mpr (yE_m hG (by decide)))]; rfl
set_option maxRecDepth 100000 in
theorem msc_load {f c : Int32} {cz : Int} (hf : f.toInt = fn) (hfn : fn < 12) (hp0 : p0 ≤ ln r) (hl40 : ln r ≤ 40) (hrN : r < N) (hc : c.toInt = cz) (hok : okc cz) (hG : yG h) (hP : MP N ln cd h) (ht : (gi h 316 21).toInt = tn) (htn : tn < 2) (hV : VM N ln cd tn h) (hst : (gi h 316 34).toInt = st) (h39 : (gi h 316 39).toInt = 0) (hM : MFr h fn r p0 sz rw a nr sr wi st0) (hW : MW tn h S L) (c3 : 200 ≤ cz) (c1 : cz < 300) (hG1 : yG (rk_pt h 341 fn (.int ((gi h 341 fn) ||| ((1 : Int32) <<< ((c - (200 : Int32)) &&& 31)))))) (E1 : rk_ex n d rm_X8_step 202 [(2, .int c), (1, .int f), (0, .ref 316)] [.int (gi h 320 (((((16 : Int32) * (gi h 316 21)) + c) - (200 : Int32)).toNatClampNeg)), .int f, .ref 316] (rk_pt h 341 fn (.int ((gi h 341 fn) ||| ((1 : Int32) <<< ((c - (200 : Int32)) &&& 31))))) = some o) : ∃ h', o = (none, h') ∧ yG h' ∧ LO N ln cd tn fn r p0 st0 a h h' (cst true N (EVe true N ln cd (11 - fn)) a cz sz rw nr sr wi S L st) := by
  obtain ⟨m1, m2, m3, ⟨m4, m4b, m4c⟩, m5, m6, m7, m8⟩ := id hM
  obtain ⟨o1, o2, o3, o4, o5, o6, o7, o8⟩ := hok
  have y337 := yE_f hG (b := 337) (k := fn) (by omega) hfn
  have hcn : c.toInt = ((cz.toNat : Nat) : Int) := by omega
  have s200 : (c - (200 : Int32)).toInt = cz - 200 := by rw [Int32.toInt_sub, hc, show (200 : Int32).toInt = 200 from rfl, rk_bm (by omega) (by omega)]
  have hix : ((16 : Int32) * (gi h 316 21) + c - (200 : Int32)).toInt = ((16 * tn + (cz - 200).toNat : Nat) : Int) := by
    rw [y_subc (y_16 (c := 16) (cn := 16) rfl ht hcn (by omega)) (j := 200) rfl (by omega) (by omega)]
    omega
  rw [y_ix hix, hW.1 _ (by omega)] at E1
  have f1 : ∀ b k, ¬ (b = 341 ∧ k = fn) → rk_get (rk_pt h 341 fn (.int ((gi h 341 fn) ||| ((1 : Int32) <<< ((c - (200 : Int32)) &&& 31))))) b k = rk_get h b k := fun b k z => rk_get_ne (by omega)
  have eb : ∀ b, bt (gi (rk_pt h 341 fn (.int ((gi h 341 fn) ||| ((1 : Int32) <<< ((c - (200 : Int32)) &&& 31))))) 341 fn) b = eup sr (cz - 200).toNat true b := fun b => by
    rw [gi_s (yE_f hG (by omega) hfn), bt_or, bt_shl (by omega) (by omega), m7 b, s200]
    unfold eup
    by_cases e : b = (cz - 200).toNat
    · rw [if_pos e, decide_eq_true e, Bool.or_true]
    · rw [if_neg e, decide_eq_false e, Bool.or_false]
  generalize rk_pt h 341 fn (.int ((gi h 341 fn) ||| ((1 : Int32) <<< ((c - (200 : Int32)) &&& 31)))) = H at *
  obtain ⟨m1', d1, o1', hm1, E2, E3⟩ := E_call (ar := ([.ref 316, .int f, .int (S (cz - 200).toNat)], [])) rfl rfl rfl rfl rfl rfl E1
  obtain ⟨h', rfl, g0, g⟩ := LO_put (cz := cz) (h := h) hf hfn hp0 hG1 hV hst h39 (⟨by rw [gi_eq (f1 _ _ (by omega))]; exact m1, by rw [gi_eq (f1 _ _ (by omega))]; exact m2, fun i hi => by rw [gi_eq (f1 _ _ (by omega))]; exact m3 i hi, ⟨by rw [gi_eq (f1 _ _ (by omega))]; exact m4, m4b, fun i hi => by rw [gi_eq (f1 _ _ (by omega))]; exact m4c i hi⟩, by rw [gi_eq (f1 _ _ (by omega))]; exact m5, fun b => by rw [gi_eq (f1 _ _ (by omega))]; exact m6 b, eb, by rw [gi_eq (f1 _ _ (by omega))]; exact m8⟩ : MFr H fn r p0 sz rw a nr (eup sr (cz - 200).toNat true) wi st0) (MW_eq (fun b k z => f1 b k (by omega)) hW) (fun b k z _ _ => f1 b k (fun w => z (by unfold mfq; omega))) E2
  obtain ⟨-, rfl⟩ := ym_sr205 g0 E3
  refine ⟨h', rfl, g0, ?_⟩
  unfold cst
  rw [if_neg (by omega), if_neg (by omega), if_pos (by omega)]
  rcases g with ⟨z, g⟩ | ⟨z, g⟩
  · rw [if_pos z]; exact g
  · rw [if_neg z, if_pos rfl]; exact g
set_option maxRecDepth 100000 in
theorem msc_num {f c : Int32} {cz : Int} (hf : f.toInt = fn) (hfn : fn < 12) (hp0 : p0 ≤ ln r) (hl40 : ln r ≤ 40) (hrN : r < N) (hc : c.toInt = cz) (hok : okc cz) (hG : yG h) (hP : MP N ln cd h) (ht : (gi h 316 21).toInt = tn) (htn : tn < 2) (hV : VM N ln cd tn h) (hst : (gi h 316 34).toInt = st) (h39 : (gi h 316 39).toInt = 0) (hM : MFr h fn r p0 sz rw a nr sr wi st0) (hW : MW tn h S L) (c3 : 100 ≤ cz) (c1 : cz < 200) (hG1 : yG (rk_pt h 340 fn (.int ((gi h 340 fn) ||| ((1 : Int32) <<< ((c - (100 : Int32)) &&& 31)))))) (E1 : rk_ex n d rm_X8_step 153 [(2, .int c), (1, .int f), (0, .ref 316)] [.int (gi h 336 (((((3 : Int32) * f) + c) - (100 : Int32)).toNatClampNeg)), .int f, .ref 316] (rk_pt h 340 fn (.int ((gi h 340 fn) ||| ((1 : Int32) <<< ((c - (100 : Int32)) &&& 31))))) = some o) : ∃ h', o = (none, h') ∧ yG h' ∧ LO N ln cd tn fn r p0 st0 a h h' (cst true N (EVe true N ln cd (11 - fn)) a cz sz rw nr sr wi S L st) := by
  obtain ⟨m1, m2, m3, ⟨m4, m4b, m4c⟩, m5, m6, m7, m8⟩ := id hM
  obtain ⟨o1, o2, o3, o4, o5, o6, o7, o8⟩ := hok
  have y337 := yE_f hG (b := 337) (k := fn) (by omega) hfn
  have hcn : c.toInt = ((cz.toNat : Nat) : Int) := by omega
  have s100 : (c - (100 : Int32)).toInt = cz - 100 := by rw [Int32.toInt_sub, hc, show (100 : Int32).toInt = 100 from rfl, rk_bm (by omega) (by omega)]
  have hix : ((3 : Int32) * f + c - (100 : Int32)).toInt = ((3 * fn + (cz - 100).toNat : Nat) : Int) := by
    rw [y_subc (y_16 (c := 3) (cn := 3) rfl hf hcn (by omega)) (j := 100) rfl (by omega) (by omega)]
    omega
  rw [y_ix hix, m3 _ (by omega)] at E1
  have f1 : ∀ b k, ¬ (b = 340 ∧ k = fn) → rk_get (rk_pt h 340 fn (.int ((gi h 340 fn) ||| ((1 : Int32) <<< ((c - (100 : Int32)) &&& 31))))) b k = rk_get h b k := fun b k z => rk_get_ne (by omega)
  have eb : ∀ b, bt (gi (rk_pt h 340 fn (.int ((gi h 340 fn) ||| ((1 : Int32) <<< ((c - (100 : Int32)) &&& 31))))) 340 fn) b = eup nr (cz - 100).toNat true b := fun b => by
    rw [gi_s (yE_f hG (by omega) hfn), bt_or, bt_shl (by omega) (by omega), m6 b, s100]
    unfold eup
    by_cases e : b = (cz - 100).toNat
    · rw [if_pos e, decide_eq_true e, Bool.or_true]
    · rw [if_neg e, decide_eq_false e, Bool.or_false]
  generalize rk_pt h 340 fn (.int ((gi h 340 fn) ||| ((1 : Int32) <<< ((c - (100 : Int32)) &&& 31)))) = H at *
  obtain ⟨m1', d1, o1', hm1, E2, E3⟩ := E_call (ar := ([.ref 316, .int f, .int (a (cz - 100).toNat)], [])) rfl rfl rfl rfl rfl rfl E1
  obtain ⟨h', rfl, g0, g⟩ := LO_put (cz := cz) (h := h) hf hfn hp0 hG1 hV hst h39 (⟨by rw [gi_eq (f1 _ _ (by omega))]; exact m1, by rw [gi_eq (f1 _ _ (by omega))]; exact m2, fun i hi => by rw [gi_eq (f1 _ _ (by omega))]; exact m3 i hi, ⟨by rw [gi_eq (f1 _ _ (by omega))]; exact m4, m4b, fun i hi => by rw [gi_eq (f1 _ _ (by omega))]; exact m4c i hi⟩, by rw [gi_eq (f1 _ _ (by omega))]; exact m5, eb, fun b => by rw [gi_eq (f1 _ _ (by omega))]; exact m7 b, by rw [gi_eq (f1 _ _ (by omega))]; exact m8⟩ : MFr H fn r p0 sz rw a (eup nr (cz - 100).toNat true) sr wi st0) (MW_eq (fun b k z => f1 b k (by omega)) hW) (fun b k z _ _ => f1 b k (fun w => z (by unfold mfq; omega))) E2
  obtain ⟨-, rfl⟩ := ym_sr156 g0 E3
  refine ⟨h', rfl, g0, ?_⟩
  unfold cst
  rw [if_neg (by omega), if_pos (by omega)]
  rcases g with ⟨z, g⟩ | ⟨z, g⟩
  · rw [if_pos z]; exact g
  · rw [if_neg z, if_pos rfl]; exact g
set_option maxRecDepth 100000 in
theorem msc_jump {f c : Int32} {cz : Int} (hf : f.toInt = fn) (hfn : fn < 12) (hp0 : p0 ≤ ln r) (hl40 : ln r ≤ 40) (hrN : r < N) (hc : c.toInt = cz) (hok : okc cz) (hG : yG h) (hP : MP N ln cd h) (ht : (gi h 316 21).toInt = tn) (htn : tn < 2) (hV : VM N ln cd tn h) (hst : (gi h 316 34).toInt = st) (h39 : (gi h 316 39).toInt = 0) (hM : MFr h fn r p0 sz rw a nr sr wi st0) (hW : MW tn h S L) (c3 : 600 ≤ cz) (c6 : 1 ≤ sz) (E1 : rk_ex n d rm_X8_step 302 [(2, .int c), (1, .int f), (0, .ref 316)] [] h = some o) : ∃ h', o = (none, h') ∧ yG h' ∧ LO N ln cd tn fn r p0 st0 a h h' (cst true N (EVe true N ln cd (11 - fn)) a cz sz rw nr sr wi S L st) := by
  obtain ⟨m1, m2, m3, ⟨m4, m4b, m4c⟩, m5, m6, m7, m8⟩ := id hM
  obtain ⟨o1, o2, o3, o4, o5, o6, o7, o8⟩ := hok
  have y337 := yE_f hG (b := 337) (k := fn) (by omega) hfn
  have hcn : c.toInt = ((cz.toNat : Nat) : Int) := by omega
  have ef := y_ix hf
  obtain ⟨m2', hm2, hG2, E2⟩ := ym_sj hG (by rw [ef]; exact y337) E1
  rw [ef] at hG2 E2
  rw [y_ix m1] at E2
  have hl := (hP.2.2 r hrN).1
  have hw6 : ((gi h 335 fn) + c - (600 : Int32)).toInt = ((p0 + (cz - 600).toNat : Nat) : Int) := by
    rw [y_subc (y_addc m2 hcn (by omega)) (j := 600) rfl (by omega) (by omega)]
    omega
  have hMH := MFr_pop hfn (by omega) hG hM
  have f1 : ∀ b k, ¬ (b = 337 ∧ k = fn) → rk_get (rk_pt h 337 fn (.int ((gi h 337 fn) - (1 : Int32)))) b k = rk_get h b k := fun b k z => rk_get_ne (by omega)
  generalize rk_pt h 337 fn (.int ((gi h 337 fn) - (1 : Int32))) = H at *
  obtain ⟨u1, u2, u3, ⟨u4, u4b, u4c⟩, u5, u6, u7, u8⟩ := id hMH
  have A2 := ym_sk hG2 E2
  rw [ef, y_ix (y_20 hf u4 (by omega) (by omega)), hl, hw6, gi_eq (f1 338 _ (by omega)), m4c (sz - 1) (by omega)] at A2
  have jump : ∀ (w : Int32) (k : Nat), w.toInt = ((min (p0 + k) (ln r) : Nat) : Int) → yG (rk_pt H 335 fn (.int w)) → LO N ln cd tn fn r p0 st0 a h (rk_pt H 335 fn (.int w)) (0, k, sz - 1, rw, nr, sr, wi, S, L, st) := by
    intro w k hw hG3
    have f3 : ∀ b k, ¬ (b = 335 ∧ k = fn) → rk_get (rk_pt H 335 fn (.int w)) b k = rk_get H b k := fun b k z => rk_get_ne (by omega)
    refine LO_gen (by omega) hG3 hV hst ⟨by rw [gi_eq (f3 _ _ (by omega))]; exact u1, by rw [gi_s (yE_f hG2 (by omega) hfn)]; exact hw, fun i hi => by rw [gi_eq (f3 _ _ (by omega))]; exact u3 i hi, ⟨by rw [gi_eq (f3 _ _ (by omega))]; exact u4, u4b, fun i hi => by rw [gi_eq (f3 _ _ (by omega))]; exact u4c i hi⟩, by rw [gi_eq (f3 _ _ (by omega))]; exact u5, fun b => by rw [gi_eq (f3 _ _ (by omega))]; exact u6 b, fun b => by rw [gi_eq (f3 _ _ (by omega))]; exact u7 b, by rw [gi_eq (f3 _ _ (by omega))]; exact u8⟩ (MW_eq (fun b k z => (f3 b k (by omega)).trans (f1 b k (by omega))) hW) (by rw [gi_eq (f3 _ _ (by omega)), gi_eq (f1 _ _ (by omega))]; exact h39) (fun b k z1 _ _ _ => (f3 b k (fun z => z1 (by unfold mfq; omega))).trans (f1 b k (fun z => z1 (by unfold mfq; omega))))
  have ecst : cst true N (EVe true N ln cd (11 - fn)) a cz sz rw nr sr wi S L st = (0, (if (rw (sz - 1)).toInt = 0 then (cz - 600).toNat else 0), sz - 1, rw, nr, sr, wi, S, L, st) := by
    unfold cst
    rw [if_neg (by omega), if_neg (by omega), if_neg (by omega), if_neg (by omega), if_neg (by omega), if_neg (by omega), if_neg (by omega), if_neg (by omega), if_neg (by omega), if_neg (by omega)]
  rw [ecst]
  rcases A2 with ⟨q1, q2, hG3, rfl⟩ | ⟨q1, q2, hG3, rfl⟩ | ⟨q1, hG3, rfl⟩
  · rw [if_pos q1]
    exact ⟨_, rfl, hG3, (jump _ _ (by rw [hl, Nat.min_eq_right (by omega)]) hG3)⟩
  · rw [if_pos q1]
    exact ⟨_, rfl, hG3, (jump _ _ (by rw [hw6, Nat.min_eq_left (by omega)]) hG3)⟩
  · rw [if_neg q1]
    exact ⟨_, rfl, hG3, (jump _ _ (by rw [u2, Nat.add_zero, Nat.min_eq_left hp0]) hG3)⟩
theorem msc_save {f c : Int32} {cz : Int} (hf : f.toInt = fn) (hfn : fn < 12) (hp0 : p0 ≤ ln r) (hl40 : ln r ≤ 40) (hrN : r < N) (hc : c.toInt = cz) (hok : okc cz) (hG : yG h) (hP : MP N ln cd h) (ht : (gi h 316 21).toInt = tn) (htn : tn < 2) (hV : VM N ln cd tn h) (hst : (gi h 316 34).toInt = st) (h39 : (gi h 316 39).toInt = 0) (hM : MFr h fn r p0 sz rw a nr sr wi st0) (hW : MW tn h S L) (c3 : 300 ≤ cz) (c1 : cz < 400) (c6 : 1 ≤ sz) (hG' : yG (rk_pt (rk_pt h 337 fn (.int ((gi h 337 fn) - (1 : Int32)))) 320 (((((16 : Int32) * (gi h 316 21)) + c) - (300 : Int32)).toNatClampNeg) (.int (gi h 338 ((((20 : Int32) * f) + ((gi h 337 fn) - (1 : Int32))).toNatClampNeg))))) : ∃ h', ((none, rk_pt (rk_pt h 337 fn (.int ((gi h 337 fn) - (1 : Int32)))) 320 (((((16 : Int32) * (gi h 316 21)) + c) - (300 : Int32)).toNatClampNeg) (.int (gi h 338 ((((20 : Int32) * f) + ((gi h 337 fn) - (1 : Int32))).toNatClampNeg)))) : Option Value × rk_S) = (none, h') ∧ yG h' ∧ LO N ln cd tn fn r p0 st0 a h h' (cst true N (EVe true N ln cd (11 - fn)) a cz sz rw nr sr wi S L st) := by
  obtain ⟨m1, m2, m3, ⟨m4, m4b, m4c⟩, m5, m6, m7, m8⟩ := id hM
  obtain ⟨o1, o2, o3, o4, o5, o6, o7, o8⟩ := hok
  have y337 := yE_f hG (b := 337) (k := fn) (by omega) hfn
  have hcn : c.toInt = ((cz.toNat : Nat) : Int) := by omega
  have t3 : ((gi h 337 fn) - (1 : Int32)).toInt = ((sz - 1 : Nat) : Int) := y_subc m4 (j := 1) rfl (by omega) (by omega)
  have hix : ((16 : Int32) * (gi h 316 21) + c - (300 : Int32)).toInt = ((16 * tn + (cz - 300).toNat : Nat) : Int) := by
    rw [y_subc (y_16 (c := 16) (cn := 16) rfl ht hcn (by omega)) (j := 300) rfl (by omega) (by omega)]
    omega
  rw [y_ix (y_20 hf t3 (by omega) (by omega)), y_ix hix, m4c (sz - 1) (by omega)] at hG' ⊢
  have hMH := MFr_pop hfn (by omega) hG hM
  have f1 : ∀ b k, ¬ (b = 337 ∧ k = fn) → rk_get (rk_pt h 337 fn (.int ((gi h 337 fn) - (1 : Int32)))) b k = rk_get h b k := fun b k z => rk_get_ne (by omega)
  have y320 : ∀ {H : rk_S}, yG H → yE 320 (16 * tn + (cz - 300).toNat) H := fun z => z.yE (by decide) (by decide) (by rw [yln_m.2.2.2.2.1]; omega)
  have y320' : yE 320 (16 * tn + (cz - 300).toNat) (rk_pt h 337 fn (.int ((gi h 337 fn) - (1 : Int32)))) := yE_pt.mpr (y320 hG)
  generalize rk_pt h 337 fn (.int ((gi h 337 fn) - (1 : Int32))) = H at *
  have f3 : ∀ b k, ¬ (b = 320 ∧ k = 16 * tn + (cz - 300).toNat) → rk_get (rk_pt H 320 (16 * tn + (cz - 300).toNat) (.int (rw (sz - 1)))) b k = rk_get H b k := fun b k z => rk_get_ne (by omega)
  refine ⟨_, rfl, hG', ?_⟩
  unfold cst
  rw [if_neg (by omega), if_neg (by omega), if_neg (by omega), if_pos (by omega), if_neg (by omega)]
  refine LO_gen (by omega) hG' hV hst (by rw [Nat.add_zero, Nat.min_eq_left hp0]; exact MFr_eq (fun b k hb => f3 b k (by unfold mfq at hb; omega)) hMH) ⟨fun s hs => ?_, ?_⟩ (by rw [gi_eq (f3 _ _ (by omega)), gi_eq (f1 _ _ (by omega))]; exact h39) (fun b k z1 z2 _ _ => (f3 b k (by omega)).trans (f1 b k (fun z => z1 (by unfold mfq; omega))))
  · by_cases e : s = (cz - 300).toNat
    · subst e
      rw [gi_s y320', eup_self]
    · rw [gi_eq (f3 _ _ (by omega)), gi_eq (f1 _ _ (by omega)), eup_ne _ _ e]
      exact hW.1 s hs
  · rw [gi_eq (f3 _ _ (by omega)), gi_eq (f1 _ _ (by omega))]
    exact hW.2
set_option maxRecDepth 100000 in
theorem msc_ok {f c : Int32} {cz : Int} (hf : f.toInt = fn) (hfn : fn < 12) (hp0 : p0 ≤ ln r) (hl40 : ln r ≤ 40) (hrN : r < N) (hc : c.toInt = cz) (hok : okc cz) (hG : yG h) (hP : MP N ln cd h) (ht : (gi h 316 21).toInt = tn) (htn : tn < 2) (hd : (gi h 316 24).toInt = ((fn + 1 : Nat) : Int)) (hV : VM N ln cd tn h) (hst : (gi h 316 34).toInt = st) (hst2 : st ≤ 2000) (h39 : (gi h 316 39).toInt = 0) (hM : MFr h fn r p0 sz rw a nr sr wi st0) (hW : MW tn h S L) (E : rk_ex n d rm_X8_step 80 [(2, .int c), (1, .int f), (0, .ref 316)] [] h = some o) : ∃ h', o = (none, h') ∧ yG h' ∧ (LO N ln cd tn fn r p0 st0 a h h' (cst true N (EVe true N ln cd (11 - fn)) a cz sz rw nr sr wi S L st) ∨ ∃ rn : Nat, cz = 400 + (rn : Int) ∧ 3 ≤ sz ∧ rn < N ∧ fn + 1 < 12 ∧ CO N ln cd tn fn rn (e3 (rw (sz - 3)) (rw (sz - 2)) (rw (sz - 1))) (r, p0, sz - 3, rw, a, nr, sr, wi, st0) S L st h h') := by
  obtain ⟨m1, m2, m3, ⟨m4, m4b, m4c⟩, m5, m6, m7, m8⟩ := id hM
  obtain ⟨o1, o2, o3, o4, o5, o6, o7, o8⟩ := id hok
  have y337 := yE_f hG (b := 337) (k := fn) (by omega) hfn
  have A := ym_sc hG (by rw [y_ix hf]; exact y337) E
  rw [y_ix hf, hc, m4] at A
  have s400 : (c - (400 : Int32)).toInt = cz - 400 := by rw [Int32.toInt_sub, hc, show (400 : Int32).toInt = 400 from rfl, rk_bm (by omega) (by omega)]
  have s500 : (c - (500 : Int32)).toInt = cz - 500 := by rw [Int32.toInt_sub, hc, show (500 : Int32).toInt = 500 from rfl, rk_bm (by omega) (by omega)]
  have hcn : c.toInt = ((cz.toNat : Nat) : Int) := by omega
  have acts : ∀ (m : Nat), rk_ex m d rm_X8_step 296 [(2, .int c), (1, .int f), (0, .ref 316)] [.int (c - (500 : Int32)), .int f, .ref 316] h = some o → 500 ≤ cz → cz < 509 → (cz = 506 ∨ cz = 507 → 1 ≤ sz) → (cz < 506 → 2 ≤ sz) → ∃ h', o = (none, h') ∧ yG h' ∧ (LO N ln cd tn fn r p0 st0 a h h' (cst true N (EVe true N ln cd (11 - fn)) a cz sz rw nr sr wi S L st) ∨ ∃ rn : Nat, cz = 400 + (rn : Int) ∧ 3 ≤ sz ∧ rn < N ∧ fn + 1 < 12 ∧ CO N ln cd tn fn rn (e3 (rw (sz - 3)) (rw (sz - 2)) (rw (sz - 1))) (r, p0, sz - 3, rw, a, nr, sr, wi, st0) S L st h h') := by
    intro m E1 z1 z2 z3 z4
    obtain ⟨m1', d1, o1', hm1, E2, E3⟩ := E_call (ar := ([.ref 316, .int f, .int (c - (500 : Int32))], [])) rfl rfl rfl rfl rfl rfl E1
    obtain ⟨h', rfl, g⟩ := mac2_ok (ent := EVe true N ln cd (11 - fn)) hf hfn hp0 s500 z1 z2 z3 z4 hG ht htn hV hst h39 hM hW E2
    obtain ⟨-, rfl⟩ := ym_sr299 g.1 E3
    exact ⟨h', rfl, g.1, Or.inl g⟩
  have one : ∀ (hG' : yG (rk_pt h 316 39 (.int (1 : Int32)))), cst true N (EVe true N ln cd (11 - fn)) a cz sz rw nr sr wi S L st = (1, 0, sz, rw, nr, sr, wi, S, L, st) → ∃ h', ((none, rk_pt h 316 39 (.int (1 : Int32))) : Option Value × rk_S) = (none, h') ∧ yG h' ∧ (LO N ln cd tn fn r p0 st0 a h h' (cst true N (EVe true N ln cd (11 - fn)) a cz sz rw nr sr wi S L st) ∨ ∃ rn : Nat, cz = 400 + (rn : Int) ∧ 3 ≤ sz ∧ rn < N ∧ fn + 1 < 12 ∧ CO N ln cd tn fn rn (e3 (rw (sz - 3)) (rw (sz - 2)) (rw (sz - 1))) (r, p0, sz - 3, rw, a, nr, sr, wi, st0) S L st h h') := by
    intro hG' e
    refine ⟨_, rfl, hG', Or.inl ?_⟩
    rw [e]
    exact LO_ref (by omega) rfl hp0 hG hG' hV hM hW hst
  rcases A with ⟨c1, c2, c3, c4, m, hm, hG1, E1⟩ | ⟨c1, c2, c3, c4, m, hm, hG1, E1⟩ | ⟨c1, c2, c3, m, hm, -, E1⟩ | ⟨c1, c2, -⟩ | ⟨c1, c2, c3, c4, c5, c6, c7, m, hm, -, E1⟩ | ⟨c1, c2, c3, c4, c5, c6, c7, m, hm, -, E1⟩ | ⟨c1, c2, c3, c4, c5, c6, hG', rfl⟩ | ⟨c1, c2, c3, c4, c5, c6, m, hm, -, E1⟩ | ⟨c1, c2, c3, c4, c5, c6, hG', rfl⟩ | ⟨c1, c2, c3, c4, c5, m, hm, -, E1⟩ | ⟨c1, c2, c3, c4, c5, hG', rfl⟩ | ⟨c1, c2, c3, c4, hG', rfl⟩ | ⟨c1, c2, c3, c4, hG', rfl⟩ | ⟨c1, c2, c3, m, hm, -, E1⟩ | ⟨c1, c2, c3, -⟩
  · obtain ⟨h', rfl, g0, g⟩ := msc_load hf hfn hp0 hl40 hrN hc hok hG hP ht htn hV hst h39 hM hW (by omega) (by omega) hG1 E1
    exact ⟨h', rfl, g0, Or.inl g⟩
  · obtain ⟨h', rfl, g0, g⟩ := msc_num hf hfn hp0 hl40 hrN hc hok hG hP ht htn hV hst h39 hM hW (by omega) (by omega) hG1 E1
    exact ⟨h', rfl, g0, Or.inl g⟩
  · -- constants
    obtain ⟨m1', d1, o1', hm1, E2, E3⟩ := E_call (ar := ([.ref 316, .int f, .int c], [])) rfl rfl rfl rfl rfl rfl E1
    obtain ⟨h', rfl, g0, g⟩ := LO_put (cz := cz) (h := h) hf hfn hp0 hG hV hst h39 hM hW (fun _ _ _ _ _ => rfl) E2
    obtain ⟨-, rfl⟩ := ym_sr113 g0 E3
    refine ⟨h', rfl, g0, Or.inl ?_⟩
    have ex : Int32.ofInt cz = c := by rw [← hc, Int32.ofInt_toInt]
    unfold cst
    rw [if_pos (by omega), ex]
    rcases g with ⟨z, g⟩ | ⟨z, g⟩
    · rw [if_pos z]; exact g
    · rw [if_neg z]; exact g
  · omega
  · obtain ⟨h', rfl, g0, g⟩ := msc_jump hf hfn hp0 hl40 hrN hc hok hG hP ht htn hV hst h39 hM hW (by omega) (by omega) E1
    exact ⟨h', rfl, g0, Or.inl g⟩
  · exact acts m E1 (by omega) (by omega) (fun _ => by omega) (fun _ => by omega)
  · refine one hG' ?_
    unfold cst
    by_cases z1 : cz < 507
    · rw [if_neg (by omega), if_neg (by omega), if_neg (by omega), if_neg (by omega), if_neg (by omega), if_neg (by omega), if_pos z1, if_pos (by omega)]
    · by_cases z2 : cz < 508
      · rw [if_neg (by omega), if_neg (by omega), if_neg (by omega), if_neg (by omega), if_neg (by omega), if_neg (by omega), if_neg z1, if_pos z2, if_pos (by omega)]
      · rw [if_neg (by omega), if_neg (by omega), if_neg (by omega), if_neg (by omega), if_neg (by omega), if_neg (by omega), if_neg z1, if_neg z2, if_neg (by omega), if_pos (by omega)]
  · exact acts m E1 (by omega) (by omega) (fun _ => by omega) (fun _ => by omega)
  · refine one hG' ?_
    unfold cst
    rw [if_neg (by omega), if_neg (by omega), if_neg (by omega), if_neg (by omega), if_neg (by omega), if_pos (by omega), if_pos (by omega)]
  · -- calls
    obtain ⟨m1', d1, o1', hm1, E2, E3⟩ := E_call (ar := ([.ref 316, .int f, .int (c - (400 : Int32))], [])) rfl rfl rfl rfl rfl rfl E1
    obtain ⟨h', rfl, g0, g⟩ := mcl_ok (rn := (cz - 400).toNat) hf hfn hp0 (by omega) (by omega) (by omega) hG hP ht htn hd hV hst hst2 hM hW E2
    obtain ⟨-, rfl⟩ := ym_sr279 g0 E3
    rw [show 400 + (((cz - 400).toNat : Nat) : Int) = cz by omega] at g
    rcases g with g | ⟨g1, g2, g3⟩
    · exact ⟨h', rfl, g0, Or.inl g⟩
    · exact ⟨h', rfl, g0, Or.inr ⟨(cz - 400).toNat, by omega, by omega, g1, g2, g3⟩⟩
  · refine one hG' ?_
    unfold cst
    rw [if_neg (by omega), if_neg (by omega), if_neg (by omega), if_neg (by omega), if_pos (by omega), if_pos (by omega)]
  · obtain ⟨h', e, g0, g⟩ := msc_save hf hfn hp0 hl40 hrN hc hok hG hP ht htn hV hst h39 hM hW (by omega) (by omega) (by omega) hG'
    exact ⟨h', e, g0, Or.inl g⟩
  · refine one hG' ?_
    unfold cst
    rw [if_neg (by omega), if_neg (by omega), if_neg (by omega), if_pos (by omega), if_pos (by omega)]
  · exact acts m E1 (by omega) (by omega) (fun _ => by omega) (fun _ => by omega)
  · omega
end RKMT
