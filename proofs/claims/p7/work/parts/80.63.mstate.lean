/-! the reference: its frames, its worlds, its kept ones (table tn of two) -/
theorem y_mulc {c x : Int32} {cn k : Nat} (hc : c.toInt = cn) (hx : x.toInt = k) (hb : cn * k ≤ 2147483647) : (c * x).toInt = ((cn * k : Nat) : Int) := by
  rw [Int32.toInt_mul, hc, hx, ← Int.natCast_mul, rk_bm (by omega) (by omega)]
theorem y_addc {x y : Int32} {i j : Nat} (hx : x.toInt = i) (hy : y.toInt = j) (hb : i + j ≤ 2147483647) : (x + y).toInt = ((i + j : Nat) : Int) := by
  rw [Int32.toInt_add, hx, hy, rk_bm (by omega) (by omega)]
  omega
theorem y_subc {x y : Int32} {i j : Nat} (hx : x.toInt = i) (hy : y.toInt = j) (h1 : j ≤ i) (hb : i ≤ 2147483647) : (x - y).toInt = ((i - j : Nat) : Int) := by
  rw [Int32.toInt_sub, hx, hy, rk_bm (by omega) (by omega)]
  omega
theorem y_20 {f t : Int32} {fn k : Nat} (hf : f.toInt = fn) (ht : t.toInt = k) (hfn : fn < 100) (hk : k < 1000) : ((20 : Int32) * f + t).toInt = ((20 * fn + k : Nat) : Int) := y_addc (y_mulc (cn := 20) rfl hf (by omega)) ht (by omega)
set_option maxRecDepth 100000 in
theorem yln_m : yln 316 = 47 ∧ yln 317 = 10 ∧ yln 318 = 400 ∧ yln 319 = 10 ∧ yln 320 = 32 ∧ yln 321 = 2 ∧ yln 322 = 2 ∧ yln 323 = 64 ∧ yln 324 = 64 ∧ yln 325 = 192 ∧ yln 326 = 64 ∧ yln 327 = 1024 ∧ yln 328 = 64 ∧ yln 329 = 64 ∧ yln 330 = 64 ∧ yln 331 = 64 ∧ yln 332 = 64 ∧ yln 333 = 64 ∧ yln 334 = 12 ∧ yln 335 = 12 ∧ yln 336 = 36 ∧ yln 337 = 12 ∧ yln 338 = 240 ∧ yln 339 = 12 ∧ yln 340 = 12 ∧ yln 341 = 12 ∧ yln 342 = 12 := by decide +kernel
def MW (tn : Nat) (h : rk_S) (S : eS) (L : Int32) : Prop := (∀ s, s < 16 → gi h 320 (16 * tn + s) = S s) ∧ gi h 321 tn = L
def MP (N : Nat) (ln : Nat → Nat) (cd : Nat → Nat → Int) (h : rk_S) : Prop := (gi h 316 0).toInt = (N : Int) ∧ N ≤ 10 ∧ ∀ r, r < N → (gi h 317 r).toInt = (ln r : Int) ∧ ln r ≤ 40 ∧ ∀ i, i < ln r → (gi h 318 (40 * r + i)).toInt = cd r i ∧ okc (cd r i)
/-- the frame fn of the reference -/
def MFr (h : rk_S) (fn : Nat) (r p sz : Nat) (rw a : eS) (nr sr : eB) (wi st0 : Nat) : Prop := (gi h 334 fn).toInt = r ∧ (gi h 335 fn).toInt = p ∧ (∀ i, i < 3 → gi h 336 (3 * fn + i) = a i) ∧ ((gi h 337 fn).toInt = sz ∧ sz ≤ 20 ∧ ∀ i, i < sz → gi h 338 (20 * fn + i) = rw i) ∧ (gi h 339 fn).toInt = st0 ∧ (∀ b, bt (gi h 340 fn) b = nr b) ∧ (∀ b, bt (gi h 341 fn) b = sr b) ∧ (gi h 342 fn).toInt = wi
/-- a place of the frames up to (not with) fn -/
def mfp (fn b k : Nat) : Prop := ((b = 334 ∨ b = 335 ∨ b = 337 ∨ (339 ≤ b ∧ b ≤ 342)) ∧ k < fn) ∨ (b = 336 ∧ k < 3 * fn) ∨ (b = 338 ∧ k < 20 * fn)
/-- a place of the frame fn -/
def mfq (fn b k : Nat) : Prop := ((b = 334 ∨ b = 335 ∨ b = 337 ∨ (339 ≤ b ∧ b ≤ 342)) ∧ k = fn) ∨ (b = 336 ∧ 3 * fn ≤ k ∧ k < 3 * fn + 3) ∨ (b = 338 ∧ 20 * fn ≤ k ∧ k < 20 * fn + 20)
theorem MFr_eq {h h' : rk_S} {fn r p sz : Nat} {rw a : eS} {nr sr : eB} {wi st0 : Nat} (he : ∀ b k, mfq fn b k → rk_get h' b k = rk_get h b k) (hM : MFr h fn r p sz rw a nr sr wi st0) : MFr h' fn r p sz rw a nr sr wi st0 := by
  obtain ⟨m1, m2, m3, ⟨m4, m5, m6⟩, m7, m8, m9, m10⟩ := hM
  refine ⟨?_, ?_, fun i hi => ?_, ⟨?_, m5, fun i hi => ?_⟩, ?_, fun b => ?_, fun b => ?_, ?_⟩
  · rw [gi_eq (he _ _ (by unfold mfq; omega))]; exact m1
  · rw [gi_eq (he _ _ (by unfold mfq; omega))]; exact m2
  · rw [gi_eq (he _ _ (by unfold mfq; omega))]; exact m3 i hi
  · rw [gi_eq (he _ _ (by unfold mfq; omega))]; exact m4
  · rw [gi_eq (he _ _ (by unfold mfq; omega))]; exact m6 i hi
  · rw [gi_eq (he _ _ (by unfold mfq; omega))]; exact m7
  · rw [gi_eq (he _ _ (by unfold mfq; omega))]; exact m8 b
  · rw [gi_eq (he _ _ (by unfold mfq; omega))]; exact m9 b
  · rw [gi_eq (he _ _ (by unfold mfq; omega))]; exact m10
/-- a place of the kept ones of table tn, or of its world -/
def mtb (tn b k : Nat) : Prop := (b = 320 ∧ 16 * tn ≤ k ∧ k < 16 * tn + 16) ∨ (b = 321 ∧ k = tn) ∨ (b = 322 ∧ k = tn) ∨ ((323 ≤ b ∧ b ≤ 333) ∧ (b = 325 → 96 * tn ≤ k ∧ k < 96 * tn + 96) ∧ (b = 327 → 512 * tn ≤ k ∧ k < 512 * tn + 512) ∧ (b ≠ 325 → b ≠ 327 → 32 * tn ≤ k ∧ k < 32 * tn + 32))
/-- what a run at depth fn + 1 may change: the frames from fn on, the table, the counters -/
def mfr (tn fn : Nat) (h h' : rk_S) : Prop := ∀ b k, ¬ (b = 316 ∧ (k = 20 ∨ k = 24 ∨ (34 ≤ k ∧ k ≤ 41))) → ¬ mtb tn b k → ¬ ((334 ≤ b ∧ b ≤ 342) ∧ ¬ mfp fn b k) → rk_get h' b k = rk_get h b k
theorem mfr_refl {tn fn : Nat} {h : rk_S} : mfr tn fn h h := fun _ _ _ _ _ => rfl
theorem mfr_trans {tn fn : Nat} {h h1 h2 : rk_S} (a : mfr tn fn h h1) (b : mfr tn fn h1 h2) : mfr tn fn h h2 := fun c k z1 z2 z3 => (b c k z1 z2 z3).trans (a c k z1 z2 z3)
theorem mfr_le {tn fn fm : Nat} {h h' : rk_S} (hl : fm ≤ fn) (a : mfr tn fn h h') : mfr tn fm h h' := fun c k z1 z2 z3 => a c k z1 z2 (fun z => z3 ⟨z.1, fun y => z.2 (by unfold mfp at y ⊢; omega)⟩)
theorem MP_eq {N : Nat} {ln : Nat → Nat} {cd : Nat → Nat → Int} {h h' : rk_S} (he : ∀ b k, (b = 316 ∧ k = 0) ∨ b = 317 ∨ b = 318 → rk_get h' b k = rk_get h b k) (hP : MP N ln cd h) : MP N ln cd h' := by
  obtain ⟨p1, p2, p3⟩ := hP
  refine ⟨by rw [gi_eq (he 316 0 (by omega))]; exact p1, p2, fun r hr => ?_⟩
  obtain ⟨q1, q2, q3⟩ := p3 r hr
  refine ⟨by rw [gi_eq (he 317 r (by omega))]; exact q1, q2, fun i hi => ?_⟩
  rw [gi_eq (he 318 (40 * r + i) (by omega))]
  exact q3 i hi
theorem MP_mfr {N : Nat} {ln : Nat → Nat} {cd : Nat → Nat → Int} {tn fn : Nat} {h h' : rk_S} (hm : mfr tn fn h h') (hP : MP N ln cd h) : MP N ln cd h' := MP_eq (fun b k hb => hm b k (by omega) (by unfold mtb; omega) (by omega)) hP
theorem MP_b {N : Nat} {ln : Nat → Nat} {cd : Nat → Nat → Int} {h : rk_S} (hP : MP N ln cd h) : ∀ r, r < N → ln r ≤ 40 ∧ ∀ i, i < ln r → okc (cd r i) := fun r hr => ⟨(hP.2.2 r hr).2.1, fun i hi => ((hP.2.2 r hr).2.2 i hi).2⟩
/-- kept one q says what its call would come to -/
def KM (N : Nat) (ln : Nat → Nat) (cd : Nat → Nat → Int) (h : rk_S) (q : Nat) : Prop := ∃ (r e wi ks : Nat) (v : Int32) (nr sr : eB), (gi h 323 q).toInt = r ∧ (∀ b, bt (gi h 324 q) b = nr b) ∧ (∀ b, bt (gi h 326 q) b = sr b) ∧ gi h 328 q = v ∧ (gi h 329 q).toInt = e ∧ e ≤ 4 ∧ (gi h 330 q).toInt = ks ∧ ks ≤ 2000 ∧ (gi h 331 q).toInt = wi ∧ wi ≤ 12 ∧ (∀ b, nr b = true → b < 3) ∧ (∀ b, sr b = true → b < 16) ∧ ∀ (a S : eS) (L : Int32) (k st : Nat), (∀ i, nr i = true → a i = gi h 325 (3 * q + i)) → (∀ s, sr s = true → S s = gi h 327 (16 * q + s)) → wi ≤ k → st + ks ≤ 2000 → EV true N ln cd k r a S L st = (e, v, S, L, st + ks, sr, wi, nr)
/-- the same kept one at another place -/
theorem KM_mv {N : Nat} {ln : Nat → Nat} {cd : Nat → Nat → Int} {h h' : rk_S} {q q' : Nat} (h1 : ∀ b, 323 ≤ b → b ≤ 331 → b ≠ 325 → b ≠ 327 → gi h' b q' = gi h b q) (h2 : ∀ i, i < 3 → gi h' 325 (3 * q' + i) = gi h 325 (3 * q + i)) (h3 : ∀ s, s < 16 → gi h' 327 (16 * q' + s) = gi h 327 (16 * q + s)) (hK : KM N ln cd h q) : KM N ln cd h' q' := by
  obtain ⟨r, e, wi, ks, v, nr, sr, k1, k2, k3, k4, k5, k6, k7, k8, k9, k10, k11, k12, k13⟩ := hK
  refine ⟨r, e, wi, ks, v, nr, sr, by rw [h1 323 (by omega) (by omega) (by omega) (by omega)]; exact k1, fun b => by rw [h1 324 (by omega) (by omega) (by omega) (by omega)]; exact k2 b, fun b => by rw [h1 326 (by omega) (by omega) (by omega) (by omega)]; exact k3 b, by rw [h1 328 (by omega) (by omega) (by omega) (by omega)]; exact k4, by rw [h1 329 (by omega) (by omega) (by omega) (by omega)]; exact k5, k6, by rw [h1 330 (by omega) (by omega) (by omega) (by omega)]; exact k7, k8, by rw [h1 331 (by omega) (by omega) (by omega) (by omega)]; exact k9, k10, k11, k12, fun a S L k st x1 x2 x3 x4 => k13 a S L k st (fun i hi => ?_) (fun s hs => ?_) x3 x4⟩
  · rw [x1 i hi, h2 i (k11 i hi)]
  · rw [x2 s hs, h3 s (k12 s hs)]
def VM (N : Nat) (ln : Nat → Nat) (cd : Nat → Nat → Int) (tn : Nat) (h : rk_S) : Prop := ∃ cn : Nat, (gi h 322 tn).toInt = cn ∧ cn ≤ 32 ∧ ∀ i, i < cn → KM N ln cd h (32 * tn + i)
theorem VM_eq {N : Nat} {ln : Nat → Nat} {cd : Nat → Nat → Int} {tn : Nat} {h h' : rk_S} (he : ∀ b k, 322 ≤ b → b ≤ 331 → rk_get h' b k = rk_get h b k) (hV : VM N ln cd tn h) : VM N ln cd tn h' := by
  obtain ⟨cn, v1, v2, v3⟩ := hV
  refine ⟨cn, by rw [gi_eq (he _ _ (by omega) (by omega))]; exact v1, v2, fun i hi => KM_mv (fun b z1 z2 _ _ => gi_eq (he _ _ (by omega) z2)) (fun j hj => gi_eq (he _ _ (by omega) (by omega))) (fun s hs => gi_eq (he _ _ (by omega) (by omega))) (v3 i hi)⟩
theorem MW_eq {tn : Nat} {h h' : rk_S} {S : eS} {L : Int32} (he : ∀ b k, b = 320 ∨ b = 321 → rk_get h' b k = rk_get h b k) (hW : MW tn h S L) : MW tn h' S L := ⟨fun s hs => by rw [gi_eq (he _ _ (by omega))]; exact hW.1 s hs, by rw [gi_eq (he _ _ (by omega))]; exact hW.2⟩
