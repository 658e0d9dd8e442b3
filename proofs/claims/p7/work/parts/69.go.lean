/-! the contract of the reference's runs (laid by wip/gen/sx8.py) -/
def c_118 : xCt := (9, [.inr [316], .inl [(0, 1)], x_any, .inl [(0, 32)], .inl [(0, 9)], x_any, x_any, x_any], g_RG, none)
def g_E : List (List xFc) := [[([some (316, [(0, 24)])], [(8, 1)]), ([some (316, [(0, 24)])], [(8, (-1))])], [([some (316, [(0, 24)])], [(0, (-1)), (8, 1)]), ([some (316, [(0, 24)])], [(0, 1), (8, (-1))]), ([some (335, [])], [(8, (-1))]), ([some (316, [(0, 34)]), some (339, [])], [(8, 1), (9, (-1))])]]
set_option maxRecDepth 100000 in
theorem g_pre : xenB 7 [(0, .inr [316])] g_E (xrun (xcnv g_RG) g_ctl g_L 600 9 [] (some 72) 118 0 (xlvs 0 (xini 1 c_118.2.1).1) [] (xcnt c_118.2.1 + 1, (xini 1 c_118.2.1).2, [], [])) = true := by decide +kernel
theorem x_len7 {ys : List Int} (h : ys.length = 7) : ∃ a b c d e f g, ys = [a, b, c, d, e, f, g] := by
  match ys, h with
  | [a, b, c, d, e, f, g], _ => exact ⟨a, b, c, d, e, f, g, rfl⟩
/-- WorthKeepingModel.go -/
theorem k_118 : xCon 118 c_118 := by
  refine ⟨rm_X8_go, rfl, fun D av h hD hI ha => ?_⟩
  obtain ⟨ys, a1, a2, a3⟩ := xini_ok (r := [1]) (n := 1) rfl ha
  have hl := xlvs_ok a2 0
  have hlp : xlv (1 :: ys) [(0, .inr [316])] (lv_args 0 av) := by
    intro k v hk
    rcases rk_find_cons hk with ⟨rfl, rfl⟩ | ⟨-, hk⟩
    · exact hl 0 _ rfl
    · cases hk
  refine xrunB_ok (P := xCov g_RG) (h0 := h) (rt := ys) (al := g_E) g_ct g_pre (rfl : rk_m 118 = some rm_X8_go) hD (xcnv_ok rfl) ⟨hl, trivial, ⟨⟨?_, ⟨rfl, a3⟩, fun t ht => absurd ht List.not_mem_nil⟩, fun p hp => absurd hp List.not_mem_nil, hI, fun b k _ => rfl⟩⟩ a1 hlp (fun cl' h' hl' hI' hf hH => ?_)
  · show (1 :: ys).length = _
    rw [List.length_cons, a1]
  obtain ⟨w, g1, g2⟩ := hl' 0 _ rfl
  obtain ⟨a, rfl, g3⟩ := xM_ref g2
  cases List.mem_singleton.mp g3
  obtain ⟨y1, y2, y3, y4, y5, y6, y7, rfl⟩ := x_len7 a1
  have hG : ∃ d, d ≤ 12 ∧ gI d h' := by
    obtain ⟨al, hal, hall⟩ := hH
    simp only [g_E, List.mem_cons, List.not_mem_nil, or_false] at hal
    rcases hal with rfl | rfl
    · have q0 : 0 ≤ 1 * rk_iv h' 316 24 := x_f1 (hall _ (List.mem_of_getElem? (i := 0) rfl)) (k := 24) (xE1 rfl rfl) (xE1 rfl rfl)
      have q1 : 0 ≤ -1 * rk_iv h' 316 24 := x_f1 (hall _ (List.mem_of_getElem? (i := 1) rfl)) (k := 24) (xE1 rfl rfl) (xE1 rfl rfl)
      exact ⟨0, by omega, by omega, fun f hf => absurd hf (by omega)⟩
    · have q0 : 0 ≤ -1 * 1 + 1 * rk_iv h' 316 24 := x_f1 (hall _ (List.mem_of_getElem? (i := 0) rfl)) (k := 24) (xE1 rfl rfl) (xE2 rfl rfl rfl)
      have q1 : 0 ≤ 1 * 1 + -1 * rk_iv h' 316 24 := x_f1 (hall _ (List.mem_of_getElem? (i := 1) rfl)) (k := 24) (xE1 rfl rfl) (xE2 rfl rfl rfl)
      have q2 : 0 ≤ -1 * rk_iv h' 335 0 := x_f1 (hall _ (List.mem_of_getElem? (i := 2) rfl)) (k := 0) rfl (xE1 rfl rfl)
      have q3 : 0 ≤ 1 * rk_iv h' 316 34 + -1 * rk_iv h' 339 0 := x_f2 (hall _ (List.mem_of_getElem? (i := 3) rfl)) (k := 34) (k' := 0) (xE1 rfl rfl) rfl (xE2 rfl rfl rfl)
      refine ⟨1, by omega, by omega, fun f hf => ?_⟩
      have : f = 0 := by omega
      subst this
      obtain ⟨x334, -, j3, j2⟩ := x_aok_ok hI' ty_334 (k := 0) (by omega)
      rw [← j2] at j3
      have j4 := x_one1 j3
      obtain ⟨x317, -, k3, k2⟩ := x_aok_ok hI' ty_317 (k := (rk_iv h' 334 0).toNat) (by omega)
      rw [← k2] at k3
      have k4 := x_one1 k3
      exact ⟨by omega, by omega, fun z => absurd z (by omega)⟩
  obtain ⟨d, hd, hG⟩ := hG
  refine wp_weak (g_loop hD (gmu h').toNat d h' cl' hI' hd hG (by omega) g1) (fun v g hv => ⟨hv.1, fun b k hn => ?_, hv.2.2⟩)
  rw [hv.2.1 b k hn]
  exact hf b k hn
/-- X8_run -/
def c_120 : xCt := (10, [.inr [316], x_any, x_any, x_any, x_any], [((316, 316), (4, 44)), ((320, 343), (-1, 10000))], some (x_any))
set_option maxRecDepth 100000 in
theorem k_120 : xCon 120 c_120 := by
  have hk : xchk [(119, c_119), (118, c_118)] ([]) 400 120 c_120 = true := by decide +kernel
  exact xchk_ok (x_cons k_119 (x_cons k_118 x_nil)) rfl hk
/-- X8_costOf -/
def c_130 : xCt := (10, [.inr [316], x_any, .inl [(0, 32)]], [((316, 316), (4, 44)), ((320, 343), (-1, 10000))], some (x_any))
set_option maxRecDepth 100000 in
theorem k_130 : xCon 130 c_130 := by
  have hk : xchk [(118, c_118)] ([((130, 21), ([(.inl 3, [(0, 16)])], [], [], [((320, 320), (-1, 10000))], [], [(1, (-1))])), ((130, 53), ([(.inl 4, [(0, 20)]), (.inl 3, xany)], [], [], [((316, 316), (20, 41)), ((320, 342), (-1, 10000))], [], [(1, (-1))]))]) 400 130 c_130 = true := by decide +kernel
  exact xchk_ok (x_cons k_118 x_nil) rfl hk
/-- X8_cost -/
def c_131 : xCt := (11, [.inr [316], x_any, x_any], [((316, 316), (4, 44)), ((320, 343), (-1, 10000))], some (x_any))
set_option maxRecDepth 100000 in
theorem k_131 : xCon 131 c_131 := by
  have hk : xchk [(129, c_129), (130, c_130)] ([]) 400 131 c_131 = true := by decide +kernel
  exact xchk_ok (x_cons k_129 (x_cons k_130 x_nil)) rfl hk
/-- X8_best -/
def c_133 : xCt := (11, [.inr [316], x_any], [((316, 316), (4, 44)), ((320, 343), (-1, 10000))], some (x_any))
set_option maxRecDepth 100000 in
theorem k_133 : xCon 133 c_133 := by
  have hk : xchk [(129, c_129), (132, c_132), (130, c_130)] ([((133, 23), ([(.inl 4, [(0, 10)]), (.inl 3, [(0, 32767)])], [], [], [((316, 316), (4, 44)), ((320, 343), (-1, 10000))], [], [(1, (-1))])), ((133, 76), ([(.inl 6, [(0, 32768)]), (.inl 4, xany), (.inl 5, xany)], [], [7, 8], [((316, 316), (4, 44)), ((320, 343), (-1, 10000))], [], [(1, (-1))]))]) 400 133 c_133 = true := by decide +kernel
  exact xchk_ok (x_cons k_129 (x_cons k_132 (x_cons k_130 x_nil))) rfl hk
