/-! what class and reference share: the program, what each routine may do, which are told to be kept -/
def T1 (h : rk_S) : Prop := ∀ r : Nat, r < 10 → ((r : Int) < rk_iv h 2 5 → (bt (gi h 1 8) r = true ↔ rk_iv h 319 r = 1)) ∧ (rk_iv h 2 5 ≤ r → bt (gi h 1 8) r = false)
def T2 (h : rk_S) : Prop := ∀ r : Nat, r < 10 → bt (gi h 1 8) r = true → rk_iv h 15 r = 0
def lJ (h : rk_S) : Prop := lC3 h ∧ K1 h ∧ T1 h ∧ T2 h
def lkeep (b k : Nat) : Prop := (b = 1 ∧ k = 8) ∨ b = 2 ∨ (4 ≤ b ∧ b ≤ 17) ∨ (b = 316 ∧ k = 0) ∨ b = 317 ∨ b = 318 ∨ b = 319
theorem lJ_eq {h h' : rk_S} (he : ∀ b k, lkeep b k → rk_get h' b k = rk_get h b k) (hJ : lJ h) : lJ h' := by
  obtain ⟨j1, j2, j3, j4⟩ := hJ
  have e8 : gi h' 1 8 = gi h 1 8 := gi_eq (he 1 8 (by unfold lkeep; omega))
  refine ⟨lC3_eq (fun b k hb => rk_iv_eq (he b k (by unfold lkeep; omega))) j1, K1_eq (fun b k h4 h17 => he b k (by unfold lkeep; omega)) j2, fun r hr => ?_, fun r hr => ?_⟩
  · rw [e8, rk_iv_eq (he 2 5 (by unfold lkeep; omega)), rk_iv_eq (he 319 r (by unfold lkeep; omega))]
    exact j3 r hr
  · rw [e8, rk_iv_eq (he 15 r (by unfold lkeep; omega))]
    exact j4 r hr
theorem lw13_PW {b k : Nat} (h : xCov [((18, 293), (-1, 10000))] b k) : 18 ≤ b ∧ b ≤ 293 := by
  obtain ⟨c, h1, h2, h3, h4, h5⟩ := h
  simp only [List.mem_cons, List.not_mem_nil, or_false] at h1
  subst h1
  dsimp only at h2 h3 h4 h5
  omega
theorem lw13_71 {b k : Nat} (h : xCov [((1, 1), (9, 9)), ((18, 293), (-1, 10000))] b k) : (b = 1 ∧ k = 9) ∨ (18 ≤ b ∧ b ≤ 293) := by
  obtain ⟨c, h1, h2, h3, h4, h5⟩ := h
  simp only [List.mem_cons, List.not_mem_nil, or_false] at h1
  rcases h1 with rfl | rfl <;> dsimp only at h2 h3 h4 h5 <;> omega
theorem lw13_74 {b k : Nat} (h : xCov [((1, 1), (8, 8)), ((18, 293), (-1, 10000))] b k) : (b = 1 ∧ k = 8) ∨ (18 ≤ b ∧ b ≤ 293) := by
  obtain ⟨c, h1, h2, h3, h4, h5⟩ := h
  simp only [List.mem_cons, List.not_mem_nil, or_false] at h1
  rcases h1 with rfl | rfl <;> dsimp only at h2 h3 h4 h5 <;> omega
theorem lw13_RP {b k : Nat} (h : xCov [((316, 316), (4, 44)), ((320, 343), (-1, 10000))] b k) : (b = 316 ∧ 4 ≤ k) ∨ (320 ≤ b ∧ b ≤ 343) := by
  obtain ⟨c, h1, h2, h3, h4, h5⟩ := h
  simp only [List.mem_cons, List.not_mem_nil, or_false] at h1
  rcases h1 with rfl | rfl <;> dsimp only at h2 h3 h4 h5 <;> omega
theorem lw13_123 {b k : Nat} (h : xCov [((316, 316), (4, 44)), ((319, 343), (-1, 10000))] b k) : (b = 316 ∧ 4 ≤ k) ∨ (319 ≤ b ∧ b ≤ 343) := by
  obtain ⟨c, h1, h2, h3, h4, h5⟩ := h
  simp only [List.mem_cons, List.not_mem_nil, or_false] at h1
  rcases h1 with rfl | rfl <;> dsimp only at h2 h3 h4 h5 <;> omega
theorem x_01 {z : Int} (h : xinB z [(0, 1)]) : z = 0 ∨ z = 1 := by
  have := x_one1 h
  omega
