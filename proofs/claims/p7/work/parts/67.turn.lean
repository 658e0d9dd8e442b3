/-! a whole turn, and the loop -/
section RKgp
variable {h : rk_S} {d : Nat} {D : Nat} {cl : rk_L} {Q : Option Value → rk_S → Prop}
theorem g_cs0 {r : List Int} : xcs r [] := fun t ht => absurd ht List.not_mem_nil
theorem g_kn0 {r : List Int} : xkn r [] h := fun t ht => absurd ht List.not_mem_nil
theorem g_z : xinB (0 : Int) [(0, 0)] := xin_1 (by omega) (by omega)
theorem g_cases {db : xB} {kb : xK} {xu : List xFc} {u : Int}
    (p_r : g_run xu (g_S db [(0, 2000)] [(0, 20)] [(1, 5)] [(0, 0)] [] [] kb) = true)
    (p_e0 : g_run xu (g_S db [(0, 2000)] [(0, 0)] [(0, 0)] [(0, 0)] [[(3, 1), (4, (-1))]] [] kb) = true)
    (p_e1 : g_run xu (g_S db [(0, 2000)] [(1, 20)] [(0, 0)] [(0, 0)] [[(3, 1), (4, (-1))]] [] kb) = true)
    (p_f : g_run xu (g_S db [(2000, 2000)] [(0, 20)] [(0, 0)] [(0, 0)] [[(0, (-1)), (3, (-1)), (4, 1)]] [] kb) = true)
    (p_c : ∀ b ∈ [((0 : Int), (99 : Int)), (100, 102), (200, 215), (300, 315), (400, 409), (500, 508), (601, 620)], g_run xu (g_S db [(0, 1999)] [(0, 20)] [(0, 0)] [b] [[(0, (-1)), (3, (-1)), (4, 1)]] g_kc kb) = true)
    (hI : rk_Iv rk_Y h) (h1 : 1 ≤ d) (h2 : d ≤ 12) (hG : gI d h) (hD : 9 ≤ D) (hdb : xinB (d : Int) db) (hub : xinB u [(0, 17)]) (hkb : ∀ c, xkn (1 :: g_rt h d u c) kb h) (hcl : rk_find cl 0 = some (.ref 316))
    (hQ : ∀ c cl' h', rk_find cl' 0 = some (.ref 316) → rk_Iv rk_Y h' → xfr (gP d) h h' → xHA (g_rt h d u c) h' none (g_al xu) → rk_wp D rm_X8_go 72 cl' [] h' Q) : rk_wp D rm_X8_go 72 cl [] h Q := by
  obtain ⟨hd, hf⟩ := hG
  obtain ⟨hsa, hst, -⟩ := hf (d - 1) (by omega)
  obtain ⟨x34, b1, b3, b2⟩ := x_fok_ok hI ty_34
  obtain ⟨x39, c1, c3, c2⟩ := x_fok_ok hI ty_39
  obtain ⟨x337, f1, f3, f2⟩ := x_aok_ok hI ty_337 (k := d - 1) (by omega)
  obtain ⟨x334, d1, d3, d2⟩ := x_aok_ok hI ty_334 (k := d - 1) (by omega)
  obtain ⟨x335, e1, e3, e2⟩ := x_aok_ok hI ty_335 (k := d - 1) (by omega)
  rw [← b2] at b3
  rw [← c2] at c3
  rw [← f2] at f3
  rw [← d2] at d3
  rw [← e2] at e3
  have b4 := x_one1 b3
  have c4 := x_one1 c3
  have f4 := x_one1 f3
  have d4 := x_one1 d3
  have e4 := x_one1 e3
  obtain ⟨x317, i1, i3, i2⟩ := x_aok_ok hI ty_317 (k := (rk_iv h 334 (d - 1)).toNat) (by omega)
  rw [← i2] at i3
  have i4 := x_one1 i3
  by_cases hr : rk_iv h 316 39 = 0
  · have hrz : xinB (rk_iv h 316 39) [(0, 0)] := xin_1 (by omega) (by omega)
    by_cases ha : rk_iv h 335 (d - 1) = rk_iv h 317 (rk_iv h 334 (d - 1)).toNat
    · have hcx : xcs (1 :: g_rt h d u 0) [[(3, 1), (4, (-1))]] := by
        intro t ht
        cases List.mem_singleton.mp ht
        exact ⟨_, xE2 rfl rfl rfl, by show 0 ≤ 1 * rk_iv h 335 (d - 1) + -1 * rk_iv h 317 (rk_iv h 334 (d - 1)).toNat; omega⟩
      by_cases ht : rk_iv h 337 (d - 1) = 0
      · exact g_piece p_e0 hI h1 h2 hd hD hdb b3 (xin_1 (by omega) (by omega)) hrz hub g_z hcx hsa hst g_kn0 (hkb 0) hcl (hQ 0)
      · exact g_piece p_e1 hI h1 h2 hd hD hdb b3 (xin_1 (by omega) (by omega)) hrz hub g_z hcx hsa hst g_kn0 (hkb 0) hcl (hQ 0)
    · have hcx : ∀ c, xcs (1 :: g_rt h d u c) [[(0, (-1)), (3, (-1)), (4, 1)]] := by
        intro c t ht
        cases List.mem_singleton.mp ht
        exact ⟨_, xE3 rfl rfl rfl rfl, by show 0 ≤ -1 * 1 + (-1 * rk_iv h 335 (d - 1) + 1 * rk_iv h 317 (rk_iv h 334 (d - 1)).toNat); omega⟩
      by_cases hs : rk_iv h 316 34 = 2000
      · exact g_piece p_f hI h1 h2 hd hD hdb (xin_1 (by omega) (by omega)) f3 hrz hub g_z (hcx 0) hsa hst g_kn0 (hkb 0) hcl (hQ 0)
      · obtain ⟨x318, k1, k3, k2⟩ := x_aok_ok hI ty_318 (k := (40 * rk_iv h 334 (d - 1) + rk_iv h 335 (d - 1)).toNat) (by omega)
        rw [← k2] at k3
        generalize hcv : rk_iv h 318 (40 * rk_iv h 334 (d - 1) + rk_iv h 335 (d - 1)).toNat = cv at *
        have hka : xkn (1 :: g_rt h d u cv) g_kc h := by
          intro p hp
          cases List.mem_singleton.mp hp
          exact ⟨_, x318, xE2 rfl rfl (by show 40 * rk_iv h 334 (d - 1) + 1 * rk_iv h 335 (d - 1) = _; omega), k1, xE1 rfl (by show 1 * cv = _; omega)⟩
        have hb : ∃ b ∈ [((0 : Int), (99 : Int)), (100, 102), (200, 215), (300, 315), (400, 409), (500, 508), (601, 620)], xinB cv [b] := by
          obtain ⟨q, q1, q2, q3⟩ := k3
          simp only [List.mem_cons, List.not_mem_nil, or_false] at q1
          rcases q1 with rfl | rfl | rfl | rfl | rfl | rfl
          · by_cases hc : cv ≤ 99
            · exact ⟨(0, 99), List.mem_of_getElem? (i := 0) rfl, xin_1 q2 hc⟩
            · exact ⟨(100, 102), List.mem_of_getElem? (i := 1) rfl, xin_1 (by omega) q3⟩
          · exact ⟨_, List.mem_of_getElem? (i := 2) rfl, xin_1 q2 q3⟩
          · exact ⟨_, List.mem_of_getElem? (i := 3) rfl, xin_1 q2 q3⟩
          · exact ⟨_, List.mem_of_getElem? (i := 4) rfl, xin_1 q2 q3⟩
          · exact ⟨_, List.mem_of_getElem? (i := 5) rfl, xin_1 q2 q3⟩
          · exact ⟨_, List.mem_of_getElem? (i := 6) rfl, xin_1 q2 q3⟩
        obtain ⟨b, hbm, hbi⟩ := hb
        exact g_piece (p_c b hbm) hI h1 h2 hd hD hdb (xin_1 (by omega) (by omega)) f3 hrz hub hbi (hcx cv) hsa hst hka (hkb cv) hcl (hQ cv)
  · exact g_piece p_r hI h1 h2 hd hD hdb b3 f3 (xin_1 (by omega) (by omega)) hub g_z g_cs0 hsa hst g_kn0 (hkb 0) hcl (hQ 0)
theorem g_pc1 : ∀ b ∈ [((0 : Int), (99 : Int)), (100, 102), (200, 215), (300, 315), (400, 409), (500, 508), (601, 620)], g_run [] (g_S [(1, 1)] [(0, 1999)] [(0, 20)] [(0, 0)] [b] [[(0, (-1)), (3, (-1)), (4, 1)]] g_kc []) = true := by
  intro b hb
  simp only [List.mem_cons, List.not_mem_nil, or_false] at hb
  rcases hb with rfl | rfl | rfl | rfl | rfl | rfl | rfl
  · exact g_c01
  · exact g_c11
  · exact g_c21
  · exact g_c31
  · exact g_c41
  · exact g_c51
  · exact g_c61
theorem g_pc2 : ∀ b ∈ [((0 : Int), (99 : Int)), (100, 102), (200, 215), (300, 315), (400, 409), (500, 508), (601, 620)], g_run g_xu (g_S [(2, 12)] [(0, 1999)] [(0, 20)] [(0, 0)] [b] [[(0, (-1)), (3, (-1)), (4, 1)]] g_kc g_ku) = true := by
  intro b hb
  simp only [List.mem_cons, List.not_mem_nil, or_false] at hb
  rcases hb with rfl | rfl | rfl | rfl | rfl | rfl | rfl
  · exact g_c02
  · exact g_c12
  · exact g_c22
  · exact g_c32
  · exact g_c42
  · exact g_c52
  · exact g_c62
/-- what a turn leaves: frames in order, and less to go -/
theorem g_next {h' : rk_S} {u c : Int} {xu : List xFc} (hI : rk_Iv rk_Y h) (hI' : rk_Iv rk_Y h') (h1 : 1 ≤ d) (h2 : d ≤ 12) (hG : gI d h) (hf : xfr (gP d) h h') (hxu : 2 ≤ d → xu = g_xu) (hH : xHA (g_rt h d u c) h' none (g_al xu)) : (∃ d', d' ≤ 12 ∧ gI d' h') ∧ gmu h' < gmu h := by
  obtain ⟨hd, hfr⟩ := hG
  obtain ⟨hsa, hst, -⟩ := hfr (d - 1) (by omega)
  have e334 : ∀ f, f < d → rk_iv h' 334 f = rk_iv h 334 f := fun f hh => rk_iv_eq (hf 334 f (by unfold gP; omega))
  have e335 : ∀ f, f + 1 < d → rk_iv h' 335 f = rk_iv h 335 f := fun f hh => rk_iv_eq (hf 335 f (by unfold gP; omega))
  have e339 : ∀ f, f < d → rk_iv h' 339 f = rk_iv h 339 f := fun f hh => rk_iv_eq (hf 339 f (by unfold gP; omega))
  have e337 : ∀ f, f + 2 < d → rk_iv h' 337 f = rk_iv h 337 f := fun f hh => rk_iv_eq (hf 337 f (by unfold gP; omega))
  have e317 : ∀ f, rk_iv h' 317 f = rk_iv h 317 f := fun f => rk_iv_eq (hf 317 f (by unfold gP; omega))
  obtain ⟨x24', -, a3, a2⟩ := x_fok_ok hI' ty_24
  obtain ⟨x34', -, b3, b2⟩ := x_fok_ok hI' ty_34
  obtain ⟨x39', -, c3, c2⟩ := x_fok_ok hI' ty_39
  obtain ⟨x34, -, i3, i2⟩ := x_fok_ok hI ty_34
  rw [← a2] at a3
  rw [← b2] at b3
  rw [← c2] at c3
  rw [← i2] at i3
  have a4 := x_one1 a3
  have b4 := x_one1 b3
  have c4 := x_one1 c3
  have i4 := x_one1 i3
  have hdm : xE (1 :: g_rt h d u c) [(0, (-1)), (1, 1)] = some ((d - 1 : Nat) : Int) := xE2 rfl rfl (by show -1 * 1 + 1 * (d : Int) = _; omega)
  -- the caller's row, where there is one
  have hcaller : ∀ l : List xFc, (∀ f ∈ l ++ xu, xHold (g_rt h d u c) h' none f) → 2 ≤ d → rk_iv h' 337 (d - 2) ≤ 17 := by
    intro l hl hd2
    have hx := hl ([some (337, [(0, (-2)), (1, 1)])], [(0, 17), (11, (-1))]) (List.mem_append_right _ (by rw [hxu hd2]; exact List.mem_cons_self))
    have := x_f1 (k := d - 2) hx (xE2 rfl rfl (by show -2 * 1 + 1 * (d : Int) = _; omega)) (xE2 rfl rfl rfl)
    have q : 0 ≤ 17 * 1 + -1 * rk_iv h' 337 (d - 2) := this
    omega
  -- frames of the same depth
  have hsame : ∀ f, f < d → rk_iv h' 335 (d - 1) ≤ rk_iv h 317 (rk_iv h 334 (d - 1)).toNat → rk_iv h 316 34 ≤ rk_iv h' 316 34 → rk_iv h' 335 f ≤ rk_iv h' 317 (rk_iv h' 334 f).toNat ∧ rk_iv h' 339 f ≤ rk_iv h' 316 34 := by
    intro f hlt hA hS
    obtain ⟨q1, q2, q3⟩ := hfr f hlt
    rw [e334 f hlt, e317, e339 f hlt]
    by_cases hfd : f + 1 < d
    · rw [e335 f hfd]
      exact ⟨q1, by omega⟩
    · have : f = d - 1 := by omega
      subst this
      exact ⟨hA, by omega⟩
  obtain ⟨al, hal, hall⟩ := hH
  simp only [g_al, List.mem_cons, List.not_mem_nil, or_false] at hal
  rcases hal with rfl | rfl | rfl | rfl
  · have f0 := x_f1 (hall _ (List.mem_append_left _ (List.mem_of_getElem? (i := 0) rfl))) (k := 24) (xE1 rfl rfl) (xE2 rfl rfl rfl)
    have f1 := x_f1 (hall _ (List.mem_append_left _ (List.mem_of_getElem? (i := 1) rfl))) (k := 24) (xE1 rfl rfl) (xE2 rfl rfl rfl)
    have f2 := x_f1 (hall _ (List.mem_append_left _ (List.mem_of_getElem? (i := 2) rfl))) hdm (xE2 rfl rfl rfl)
    have f3 := x_f1 (hall _ (List.mem_append_left _ (List.mem_of_getElem? (i := 3) rfl))) (k := 34) (xE1 rfl rfl) (xE3 rfl rfl rfl rfl)
    have q0 : 0 ≤ -1 * (d : Int) + 1 * rk_iv h' 316 24 := f0
    have q1 : 0 ≤ 1 * (d : Int) + -1 * rk_iv h' 316 24 := f1
    have q2 : 0 ≤ 1 * rk_iv h 317 (rk_iv h 334 (d - 1)).toNat + -1 * rk_iv h' 335 (d - 1) := f2
    have q3 : 0 ≤ -1 * 1 + (-1 * rk_iv h 316 34 + 1 * rk_iv h' 316 34) := f3
    refine ⟨⟨d, h2, by omega, fun f hlt => ?_⟩, by unfold gmu; split <;> split <;> omega⟩
    obtain ⟨r1, r2⟩ := hsame f hlt (by omega) (by omega)
    refine ⟨r1, r2, fun hf1 => ?_⟩
    by_cases hf2 : f + 2 < d
    · rw [e337 f hf2]
      exact (hfr f hlt).2.2 hf1
    · have : f = d - 2 := by omega
      subst this
      exact hcaller _ hall (by omega)
  · have f0 := x_f1 (hall _ (List.mem_append_left _ (List.mem_of_getElem? (i := 0) rfl))) (k := 24) (xE1 rfl rfl) (xE2 rfl rfl rfl)
    have f1 := x_f1 (hall _ (List.mem_append_left _ (List.mem_of_getElem? (i := 1) rfl))) (k := 24) (xE1 rfl rfl) (xE2 rfl rfl rfl)
    have f2 := x_f1 (hall _ (List.mem_append_left _ (List.mem_of_getElem? (i := 2) rfl))) hdm (xE2 rfl rfl rfl)
    have f3 := x_f1 (hall _ (List.mem_append_left _ (List.mem_of_getElem? (i := 3) rfl))) (k := 34) (xE1 rfl rfl) (xE2 rfl rfl rfl)
    have f4 := x_f1 (hall _ (List.mem_append_left _ (List.mem_of_getElem? (i := 4) rfl))) (k := 39) (xE1 rfl rfl) (xE2 rfl rfl rfl)
    have f5 := x_f0 (hall _ (List.mem_append_left _ (List.mem_of_getElem? (i := 5) rfl))) (xE1 rfl rfl)
    have q0 : 0 ≤ -1 * (d : Int) + 1 * rk_iv h' 316 24 := f0
    have q1 : 0 ≤ 1 * (d : Int) + -1 * rk_iv h' 316 24 := f1
    have q2 : 0 ≤ 1 * rk_iv h 317 (rk_iv h 334 (d - 1)).toNat + -1 * rk_iv h' 335 (d - 1) := f2
    have q3 : 0 ≤ -1 * rk_iv h 316 34 + 1 * rk_iv h' 316 34 := f3
    have q4 : 0 ≤ -1 * 1 + 1 * rk_iv h' 316 39 := f4
    have q5 : 0 ≤ -1 * rk_iv h 316 39 := f5
    obtain ⟨x39, -, g3, g2⟩ := x_fok_ok hI ty_39
    rw [← g2] at g3
    have g4 := x_one1 g3
    refine ⟨⟨d, h2, by omega, fun f hlt => ?_⟩, by unfold gmu; split <;> split <;> omega⟩
    obtain ⟨r1, r2⟩ := hsame f hlt (by omega) (by omega)
    refine ⟨r1, r2, fun hf1 => ?_⟩
    by_cases hf2 : f + 2 < d
    · rw [e337 f hf2]
      exact (hfr f hlt).2.2 hf1
    · have : f = d - 2 := by omega
      subst this
      exact hcaller _ hall (by omega)
  · have f0 := x_f1 (hall _ (List.mem_append_left _ (List.mem_of_getElem? (i := 0) rfl))) (k := 24) (xE1 rfl rfl) (xE3 rfl rfl rfl rfl)
    have f1 := x_f1 (hall _ (List.mem_append_left _ (List.mem_of_getElem? (i := 1) rfl))) (k := 24) (xE1 rfl rfl) (xE3 rfl rfl rfl rfl)
    have f2 := x_f1 (hall _ (List.mem_append_left _ (List.mem_of_getElem? (i := 2) rfl))) hdm (xE2 rfl rfl rfl)
    have f3 := x_f1 (hall _ (List.mem_append_left _ (List.mem_of_getElem? (i := 3) rfl))) (k := 34) (xE1 rfl rfl) (xE3 rfl rfl rfl rfl)
    have hdd : xE (1 :: g_rt h d u c) [(1, 1)] = some ((d : Nat) : Int) := xE1 rfl (by show 1 * (d : Int) = _; omega)
    have f4 := x_f1 (hall _ (List.mem_append_left _ (List.mem_of_getElem? (i := 4) rfl))) hdd (xE1 rfl rfl)
    have f5 := x_f2 (hall _ (List.mem_append_left _ (List.mem_of_getElem? (i := 5) rfl))) (k := 34) (xE1 rfl rfl) hdd (xE2 rfl rfl rfl)
    have f6 := x_f1 (hall _ (List.mem_append_left _ (List.mem_of_getElem? (i := 6) rfl))) hdm (xE2 rfl rfl rfl)
    have q0 : 0 ≤ -1 * 1 + (-1 * (d : Int) + 1 * rk_iv h' 316 24) := f0
    have q1 : 0 ≤ 1 * 1 + (1 * (d : Int) + -1 * rk_iv h' 316 24) := f1
    have q2 : 0 ≤ 1 * rk_iv h 317 (rk_iv h 334 (d - 1)).toNat + -1 * rk_iv h' 335 (d - 1) := f2
    have q3 : 0 ≤ -1 * 1 + (-1 * rk_iv h 316 34 + 1 * rk_iv h' 316 34) := f3
    have q4 : 0 ≤ -1 * rk_iv h' 335 d := f4
    have q5 : 0 ≤ 1 * rk_iv h' 316 34 + -1 * rk_iv h' 339 d := f5
    have q6 : 0 ≤ 17 * 1 + -1 * rk_iv h' 337 (d - 1) := f6
    refine ⟨⟨d + 1, by omega, by omega, fun f hlt => ?_⟩, by unfold gmu; split <;> split <;> omega⟩
    by_cases hfd : f = d
    · subst hfd
      obtain ⟨x334, -, j3, j2⟩ := x_aok_ok hI' ty_334 (k := f) (by omega)
      rw [← j2] at j3
      have j4 := x_one1 j3
      obtain ⟨x317, -, k3, k2⟩ := x_aok_ok hI' ty_317 (k := (rk_iv h' 334 f).toNat) (by omega)
      rw [← k2] at k3
      have k4 := x_one1 k3
      exact ⟨by omega, by omega, fun z => absurd z (by omega)⟩
    · obtain ⟨r1, r2⟩ := hsame f (by omega) (by omega) (by omega)
      refine ⟨r1, r2, fun hf1 => ?_⟩
      by_cases hf0 : f = d - 1
      · subst hf0
        omega
      by_cases hf2 : f + 2 < d
      · rw [e337 f hf2]
        exact (hfr f (by omega)).2.2 (by omega)
      · have : f = d - 2 := by omega
        subst this
        exact hcaller _ hall (by omega)
  · have f0 := x_f1 (hall _ (List.mem_of_getElem? (i := 0) rfl)) (k := 24) (xE1 rfl rfl) (xE3 rfl rfl rfl rfl)
    have f1 := x_f1 (hall _ (List.mem_of_getElem? (i := 1) rfl)) (k := 24) (xE1 rfl rfl) (xE3 rfl rfl rfl rfl)
    have f2 := x_f1 (hall _ (List.mem_of_getElem? (i := 2) rfl)) (k := 34) (xE1 rfl rfl) (xE2 rfl rfl rfl)
    have f3 := x_f1 (hall _ (List.mem_of_getElem? (i := 3) rfl)) (k := 39) (xE1 rfl rfl) (xE2 rfl rfl rfl)
    have f4 := x_f1 (hall _ (List.mem_of_getElem? (i := 4) rfl)) (k := 39) (xE1 rfl rfl) (xE2 rfl rfl rfl)
    have q0 : 0 ≤ 1 * 1 + (-1 * (d : Int) + 1 * rk_iv h' 316 24) := f0
    have q1 : 0 ≤ -1 * 1 + (1 * (d : Int) + -1 * rk_iv h' 316 24) := f1
    have q2 : 0 ≤ -1 * rk_iv h 316 34 + 1 * rk_iv h' 316 34 := f2
    have q3 : 0 ≤ -1 * rk_iv h 316 39 + 1 * rk_iv h' 316 39 := f3
    have q4 : 0 ≤ 1 * rk_iv h 316 39 + -1 * rk_iv h' 316 39 := f4
    refine ⟨⟨d - 1, by omega, by omega, fun f hlt => ?_⟩, by unfold gmu; split <;> split <;> omega⟩
    obtain ⟨r1, r2, r3⟩ := hfr f (by omega)
    rw [e334 f (by omega), e317, e339 f (by omega), e335 f (by omega)]
    refine ⟨r1, by omega, fun hf1 => ?_⟩
    rw [e337 f (by omega)]
    exact r3 (by omega)
end RKgp
