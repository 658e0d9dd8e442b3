/-! what class and reference share: the program, what each routine may do, which are told to be kept -/
def T1 (h : rk_S) : Prop := ∀ r : Nat, r < 10 → ((r : Int) < rk_iv h 2 5 → (bt (gi h 1 8) r = true ↔ rk_iv h 319 r = 1)) ∧ (rk_iv h 2 5 ≤ r → bt (gi h 1 8) r = false)
def T2 (h : rk_S) : Prop := ∀ r : Nat, r < 10 → bt (gi h 1 8) r = true → rk_iv h 15 r = 0
def lJa (h : rk_S) : Prop := lC3 h ∧ K1 h ∧ T1 h ∧ T2 h
def lka (b k : Nat) : Prop := (b = 1 ∧ k = 8) ∨ b = 2 ∨ (4 ≤ b ∧ b ≤ 17) ∨ (b = 316 ∧ k = 0) ∨ b = 317 ∨ b = 318 ∨ b = 319
theorem lJa_eq {h h' : rk_S} (he : ∀ b k, lka b k → rk_get h' b k = rk_get h b k) (hJ : lJa h) : lJa h' := by
  obtain ⟨j1, j2, j3, j4⟩ := hJ
  have e8 : gi h' 1 8 = gi h 1 8 := gi_eq (he 1 8 (by unfold lka; omega))
  refine ⟨lC3_eq (fun b k hb => rk_iv_eq (he b k (by unfold lka; omega))) j1, K1_eq (fun b k h4 h17 => he b k (by unfold lka; omega)) j2, fun r hr => ?_, fun r hr => ?_⟩
  · rw [e8, rk_iv_eq (he 2 5 (by unfold lka; omega)), rk_iv_eq (he 319 r (by unfold lka; omega))]
    exact j3 r hr
  · rw [e8, rk_iv_eq (he 15 r (by unfold lka; omega))]
    exact j4 r hr
/-! the program, read off the class -/
def pN (h : rk_S) : Nat := (gi h 2 5).toInt.toNat
def pL (h : rk_S) (r : Nat) : Nat := if r < 10 then (gi h 14 r).toInt.toNat else 0
def pC (h : rk_S) (r i : Nat) : Int := if r < 10 then (gi h (4 + r) i).toInt else 0
theorem pN_eq {h h' : rk_S} (he : rk_get h' 2 5 = rk_get h 2 5) : pN h' = pN h := by
  unfold pN
  rw [gi_eq he]
theorem pL_eq {h h' : rk_S} (he : ∀ k, rk_get h' 14 k = rk_get h 14 k) : pL h' = pL h := by
  funext r
  unfold pL
  rw [gi_eq (he r)]
theorem pC_eq {h h' : rk_S} (he : ∀ b k, 4 ≤ b → b ≤ 13 → rk_get h' b k = rk_get h b k) : pC h' = pC h := by
  funext r i
  unfold pC
  split
  · rw [gi_eq (he (4 + r) i (by omega) (by omega))]
  · rfl
/-- worlds and answers alike -/
def lW (h : rk_S) : Prop := (∀ s, s < 16 → gi h 19 s = gi h 320 s) ∧ gi h 18 1 = gi h 321 0 ∧ gi h 118 11 = gi h 316 44
theorem lW_eq {h h' : rk_S} (he : ∀ b k, (b = 18 ∧ k = 1) ∨ b = 19 ∨ (b = 118 ∧ k = 11) ∨ (b = 316 ∧ k = 44) ∨ (b = 320 ∧ k < 16) ∨ (b = 321 ∧ k = 0) → rk_get h' b k = rk_get h b k) (hW : lW h) : lW h' := by
  obtain ⟨w1, w2, w3⟩ := hW
  refine ⟨fun s hs => ?_, ?_, ?_⟩
  · rw [gi_eq (he 19 s (by omega)), gi_eq (he 320 s (by omega))]
    exact w1 s hs
  · rw [gi_eq (he 18 1 (by omega)), gi_eq (he 321 0 (by omega))]
    exact w2
  · rw [gi_eq (he 118 11 (by omega)), gi_eq (he 316 44 (by omega))]
    exact w3
theorem VM_t0 {N : Nat} {ln : Nat → Nat} {cd : Nat → Nat → Int} {h h' : rk_S} (he : ∀ b k, mtb 0 b k → 322 ≤ b → rk_get h' b k = rk_get h b k) (hV : VM N ln cd 0 h) : VM N ln cd 0 h' := by
  obtain ⟨cn, v1, v2, v3⟩ := hV
  refine ⟨cn, by rw [gi_eq (he 322 0 (by unfold mtb; omega) (by omega))]; exact v1, v2, fun i hi => KM_mv (fun b z1 z2 z3 z4 => gi_eq (he _ _ (by unfold mtb; omega) (by omega))) (fun j hj => gi_eq (he 325 _ (by unfold mtb; omega) (by omega))) (fun s hs => gi_eq (he 327 _ (by unfold mtb; omega) (by omega))) (v3 i hi)⟩
theorem LG_le {N N' : Nat} {h : rk_S} (hl : N ≤ N') (hL : LG N h) : LG N' h := ⟨hL.1, fun k hk z => ⟨(hL.2 k hk z).1, by have := (hL.2 k hk z).2; omega⟩⟩
def lV (h : rk_S) : Prop := VM (pN h) (pL h) (pC h) 0 h
def lS (h : rk_S) : Prop := SV (pN h) (pL h) (pC h) h
def lG (h : rk_S) : Prop := LG (pN h) h
/-- what the reference's side goes by -/
def lM (h : rk_S) : Prop := lJa h ∧ lV h ∧ lG h
def lJ (h : rk_S) : Prop := lJa h ∧ lW h ∧ lS h ∧ lV h ∧ lG h
def lkp (b k : Nat) : Prop := (b = 2 ∧ k = 5) ∨ (4 ≤ b ∧ b ≤ 14)
theorem lV_eq {h h' : rk_S} (hp : ∀ b k, lkp b k → rk_get h' b k = rk_get h b k) (he : ∀ b k, mtb 0 b k → 322 ≤ b → rk_get h' b k = rk_get h b k) (hV : lV h) : lV h' := by
  unfold lV
  rw [pN_eq (hp 2 5 (by unfold lkp; omega)), pL_eq (fun k => hp 14 k (by unfold lkp; omega)), pC_eq (fun b k z1 z2 => hp b k (by unfold lkp; omega))]
  exact VM_t0 he hV
theorem lS_eq {h h' : rk_S} (hp : ∀ b k, lkp b k → rk_get h' b k = rk_get h b k) (he : ∀ b k, 20 ≤ b → b ≤ 117 → rk_get h' b k = rk_get h b k) (hS : lS h) : lS h' := by
  unfold lS
  rw [pN_eq (hp 2 5 (by unfold lkp; omega)), pL_eq (fun k => hp 14 k (by unfold lkp; omega)), pC_eq (fun b k z1 z2 => hp b k (by unfold lkp; omega))]
  exact SV_fr he hS
theorem lG_eq {h h' : rk_S} (hp : rk_get h' 2 5 = rk_get h 2 5) (he : ∀ b k, (b = 316 ∧ k = 45) ∨ b = 344 → rk_get h' b k = rk_get h b k) (hL : lG h) : lG h' := by
  unfold lG
  rw [pN_eq hp]
  exact LG_eq he hL
def lkeep (b k : Nat) : Prop := (b = 1 ∧ k = 8) ∨ b = 2 ∨ (4 ≤ b ∧ b ≤ 17) ∨ (b = 18 ∧ k = 1) ∨ (19 ≤ b ∧ b ≤ 117) ∨ (b = 118 ∧ k = 11) ∨ (b = 316 ∧ (k = 0 ∨ k = 44 ∨ k = 45)) ∨ b = 317 ∨ b = 318 ∨ b = 319 ∨ (320 ≤ b ∧ b ≤ 333 ∧ mtb 0 b k) ∨ b = 344
theorem lJ_eq {h h' : rk_S} (he : ∀ b k, lkeep b k → rk_get h' b k = rk_get h b k) (hJ : lJ h) : lJ h' := by
  obtain ⟨j1, j2, j3, j4, j5⟩ := hJ
  have hp : ∀ b k, lkp b k → rk_get h' b k = rk_get h b k := fun b k hb => he b k (by unfold lkp at hb; unfold lkeep; omega)
  have ht : ∀ b k, 320 ≤ b → b ≤ 333 → mtb 0 b k → rk_get h' b k = rk_get h b k := fun b k z1 z2 z3 => he b k (by unfold lkeep; exact Or.inr (Or.inr (Or.inr (Or.inr (Or.inr (Or.inr (Or.inr (Or.inr (Or.inr (Or.inr (Or.inl ⟨z1, z2, z3⟩)))))))))))
  refine ⟨lJa_eq (fun b k hb => he b k (by unfold lka at hb; unfold lkeep; omega)) j1, lW_eq (fun b k hb => ?_) j2, lS_eq hp (fun b k z1 z2 => he b k (by unfold lkeep; omega)) j3, lV_eq hp (fun b k z1 z2 => ht b k (by omega) (by unfold mtb at z1; omega) z1) j4, lG_eq (hp 2 5 (by unfold lkp; omega)) (fun b k hb => he b k (by unfold lkeep; omega)) j5⟩
  by_cases e : b = 320 ∨ b = 321
  · exact ht b k (by omega) (by omega) (by unfold mtb; omega)
  · exact he b k (by unfold lkeep; omega)
theorem lM_J {h : rk_S} (hJ : lJ h) : lM h := ⟨hJ.1, hJ.2.2.2.1, hJ.2.2.2.2⟩
/-- the class's calls leave the reference's things -/
theorem lM_eq {h h' : rk_S} (he : ∀ b k, (b = 1 ∧ k = 8) ∨ b = 2 ∨ (4 ≤ b ∧ b ≤ 17) ∨ 316 ≤ b → rk_get h' b k = rk_get h b k) (hM : lM h) : lM h' := ⟨lJa_eq (fun b k hb => he b k (by unfold lka at hb; omega)) hM.1, lV_eq (fun b k hb => he b k (by unfold lkp at hb; omega)) (fun b k z1 z2 => he b k (by omega)) hM.2.1, lG_eq (he 2 5 (by omega)) (fun b k hb => he b k (by omega)) hM.2.2⟩
/-! codes are codes -/
theorem cV_318 {h : rk_S} (hI : rk_Iv rk_Y h) {k : Nat} (hk : k < 400) : okc (rk_iv h 318 k) := by
  obtain ⟨x, -, l2, l3⟩ := x_aok_ok hI ty_318 hk
  rw [l3]
  obtain ⟨c, hc, h1, h2⟩ := l2
  simp only [List.mem_cons, List.not_mem_nil, or_false] at hc
  unfold okc
  rcases hc with rfl | rfl | rfl | rfl | rfl | rfl <;> dsimp only at h1 h2 <;> omega
theorem p_fac {h : rk_S} (hI : rk_Iv rk_Y h) : rk_iv h 2 5 = (pN h : Int) ∧ pN h ≤ 10 ∧ ∀ r, r < 10 → rk_iv h 14 r = (pL h r : Int) ∧ pL h r ≤ 40 ∧ ∀ i, rk_iv h (4 + r) i = pC h r i := by
  obtain ⟨xn, -, n2, n3⟩ := x_fok_ok hI ty_25
  rw [← n3] at n2
  have n4 := x_one1 n2
  have e : pN h = (rk_iv h 2 5).toNat := by unfold pN; rw [gi_iv]
  refine ⟨by omega, by omega, fun r hr => ?_⟩
  obtain ⟨xl, -, l2, l3⟩ := x_aok_ok hI ty_14 (k := r) hr
  rw [← l3] at l2
  have l4 := x_one1 l2
  have e2 : pL h r = (rk_iv h 14 r).toNat := by unfold pL; rw [if_pos hr, gi_iv]
  refine ⟨by omega, by omega, fun i => ?_⟩
  unfold pC
  rw [if_pos hr, gi_iv]
theorem p_okc {h : rk_S} (hI : rk_Iv rk_Y h) (hC : lC3 h) {r i : Nat} (hr : r < 10) (hi : i < pL h r) : okc (pC h r i) := by
  obtain ⟨p1, p2, p3⟩ := p_fac hI
  obtain ⟨q1, q2, q3⟩ := p3 r hr
  rw [← q3 i, hC.2.2.2 r i hr (by omega)]
  exact cV_318 hI (by omega)
theorem p_PR {h : rk_S} (hI : rk_Iv rk_Y h) (hC : lC3 h) : PR (pN h) (pL h) (pC h) h := by
  obtain ⟨p1, p2, p3⟩ := p_fac hI
  refine ⟨by rw [gi_iv]; exact p1, p2, fun r hr => ?_⟩
  obtain ⟨q1, q2, q3⟩ := p3 r (by omega)
  exact ⟨by rw [gi_iv]; exact q1, q2, fun i hi => ⟨by rw [gi_iv]; exact q3 i, p_okc hI hC (by omega) hi⟩⟩
theorem p_MP {h : rk_S} (hI : rk_Iv rk_Y h) (hC : lC3 h) : MP (pN h) (pL h) (pC h) h := by
  obtain ⟨p1, p2, p3⟩ := p_fac hI
  refine ⟨by rw [gi_iv, ← hC.1]; exact p1, p2, fun r hr => ?_⟩
  obtain ⟨q1, q2, q3⟩ := p3 r (by omega)
  exact ⟨by rw [gi_iv, ← hC.2.1 r (by omega)]; exact q1, q2, fun i hi => ⟨by rw [gi_iv, ← hC.2.2.2 r i (by omega) (by omega)]; exact q3 i, p_okc hI hC (by omega) hi⟩⟩
/-- neither acts nor draws -/
def pP (h : rk_S) (r : Nat) : Prop := r < pN h ∧ ∀ b, ¬ may (cds h) 15 r b
theorem pP_u {h : rk_S} (hI : rk_Iv rk_Y h) (hC : lC3 h) : ∀ r, pP h r → ∀ i, i < pL h r → eok (pP h) (pN h) (pC h r i) := by
  intro r hr i hi
  obtain ⟨p1, p2, p3⟩ := p_fac hI
  have hr10 : r < 10 := by have := hr.1; omega
  obtain ⟨q1, q2, q3⟩ := p3 r hr10
  have ok := p_okc hI hC hr10 hi
  have hX : cds h r (pC h r i) := ⟨i, by omega, q3 i⟩
  unfold okc at ok
  refine ⟨?_, fun e => ?_, by omega, by omega, fun h4 h5 hN => ⟨by omega, fun b w => ?_⟩⟩
  · by_cases e : pC h r i < 300 ∨ 400 ≤ pC h r i
    · exact e
    · exact absurd ⟨r, _, hr10, rch_refl r, hX, Or.inl ⟨rfl, Or.inl ⟨rfl, by omega, by omega⟩⟩⟩ (hr.2 0)
  · exact absurd ⟨r, _, hr10, rch_refl r, hX, Or.inl ⟨rfl, Or.inr ⟨rfl, e⟩⟩⟩ (hr.2 1)
  · obtain ⟨k, c, w1, w2, w3, w4⟩ := w
    refine hr.2 b ⟨k, c, w1, rch_step hr10 (s := (pC h r i - 400).toNat) (by omega) ?_ w2, w3, w4⟩
    rw [show (400 : Int) + ((pC h r i - 400).toNat : Int) = pC h r i by omega]
    exact hX
theorem pP_told {h : rk_S} (hJ : lJa h) {r : Nat} (hr : r < pN h) (h10 : r < 10) (hb : bt (gi h 1 8) r = true) : pP h r := by
  refine ⟨hr, fun b w => ?_⟩
  have h0 := hJ.2.2.2 r h10 hb
  rw [← gi_iv, bt_none0] at h0
  exact h0 b ((hJ.2.1.2 15 (Or.inl rfl) r h10 b).mpr w)
theorem pP_toldM {h : rk_S} (hI : rk_Iv rk_Y h) (hJ : lJa h) : ∀ r, r < pN h → ¬ (gi h 319 r).toInt = 0 → pP h r := by
  intro r hr hz
  obtain ⟨p1, p2, p3⟩ := p_fac hI
  refine pP_told hJ hr (by omega) (((hJ.2.2.1 r (by omega)).1 (by omega)).mpr ?_)
  have := h01_of hI r (by omega)
  rw [gi_iv] at hz
  omega
theorem pP_may {h : rk_S} (hC : lC3 h) : ∀ r, r < pN h → (∀ i, ¬ may (cdm h) 15 r i) → pP h r := fun r hr hz => ⟨hr, fun b w => hz b ((may_iff (fun q c hq => cds_cdm hC hq c) 15 r b).mp w)⟩
theorem lw13_PW {b k : Nat} (h : xCov [((18, 293), (-1, 10000))] b k) : 18 ≤ b ∧ b ≤ 293 := by
  obtain ⟨c, h1, h2, h3, h4, h5⟩ := h
  simp only [List.mem_cons, List.not_mem_nil, or_false] at h1
  subst h1
  dsimp only at h2 h3 h4 h5
  omega
theorem lw13_71 {b k : Nat} (h : xCov [((1, 1), (9, 9)), ((18, 293), (-1, 10000))] b k) : (b = 1 ∧ k = 9) ∨ (18 ≤ b ∧ b ≤ 293) := by
  obtain ⟨c, h1, h2, h3, h4, h5⟩ := h
  simp only [List.mem_cons, List.not_mem_nil, or_false] at h1
  rcases h1 with rfl | rfl <;> dsimp only at h2 h3 h4 h5 <;> omega
theorem lw13_74 {b k : Nat} (h : xCov [((1, 1), (8, 8)), ((18, 293), (-1, 10000))] b k) : (b = 1 ∧ k = 8) ∨ (18 ≤ b ∧ b ≤ 293) := by
  obtain ⟨c, h1, h2, h3, h4, h5⟩ := h
  simp only [List.mem_cons, List.not_mem_nil, or_false] at h1
  rcases h1 with rfl | rfl <;> dsimp only at h2 h3 h4 h5 <;> omega
theorem lw13_RP {b k : Nat} (h : xCov [((316, 316), (4, 44)), ((320, 343), (-1, 10000))] b k) : (b = 316 ∧ 4 ≤ k) ∨ (320 ≤ b ∧ b ≤ 343) := by
  obtain ⟨c, h1, h2, h3, h4, h5⟩ := h
  simp only [List.mem_cons, List.not_mem_nil, or_false] at h1
  rcases h1 with rfl | rfl <;> dsimp only at h2 h3 h4 h5 <;> omega
theorem lw13_123 {b k : Nat} (h : xCov [((316, 316), (4, 44)), ((319, 343), (-1, 10000))] b k) : (b = 316 ∧ 4 ≤ k) ∨ (319 ≤ b ∧ b ≤ 343) := by
  obtain ⟨c, h1, h2, h3, h4, h5⟩ := h
  simp only [List.mem_cons, List.not_mem_nil, or_false] at h1
  rcases h1 with rfl | rfl <;> dsimp only at h2 h3 h4 h5 <;> omega
theorem x_01 {z : Int} (h : xinB z [(0, 1)]) : z = 0 ∨ z = 1 := by
  have := x_one1 h
  omega
theorem lw10_E {b k : Nat} (h : xCov [] b k) : b < b := by
  obtain ⟨c, h1, -⟩ := h
  cases h1
theorem lw10_21 {b k : Nat} (h : xCov [((316, 316), (21, 21))] b k) : b = 316 ∧ k = 21 := by
  obtain ⟨c, h1, h2, h3, h4, h5⟩ := h
  cases List.mem_singleton.mp h1
  dsimp only at h2 h3 h4 h5; omega
theorem lw10_T {b k : Nat} (h : xCov [((156, 293), (-1, 10000))] b k) : 156 ≤ b ∧ b ≤ 293 := by
  obtain ⟨c, h1, h2, h3, h4, h5⟩ := h
  cases List.mem_singleton.mp h1
  dsimp only at h2 h3; omega
