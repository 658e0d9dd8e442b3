/-! the reference's runs end -/
def g_RG : xD := [((316, 316), (20, 41)), ((320, 342), (-1, 10000))]
theorem g_PC {d b k : Nat} (h : gP d b k) : xCov g_RG b k := by
  unfold gP at h
  by_cases e : b = 316
  · exact ⟨((316, 316), (20, 41)), List.mem_of_getElem? (i := 0) rfl, by dsimp only; omega, by dsimp only; omega, by dsimp only; omega, by dsimp only; omega⟩
  · exact ⟨((320, 342), (-1, 10000)), List.mem_of_getElem? (i := 1) rfl, by dsimp only; omega, by dsimp only; omega, by dsimp only; omega, by dsimp only; omega⟩
set_option maxRecDepth 100000 in
theorem g_exit : xenA 0 [[]] (xrun [] [] [] 10 9 [] none 118 72 [(0, .inr [316])] [] (1, [], [], [((316, [(0, 24)]), [])])) = true := by decide +kernel
def g_Q (h : rk_S) (v : Option Value) (h' : rk_S) : Prop := rk_Iv rk_Y h' ∧ (∀ b k, ¬ xCov g_RG b k → rk_get h' b k = rk_get h b k) ∧ xRes none v
/-- the loop's end -/
theorem g_out {D : Nat} {h : rk_S} {cl : rk_L} (hI : rk_Iv rk_Y h) (hd : rk_iv h 316 24 = 0) (hcl : rk_find cl 0 = some (.ref 316)) : rk_wp D rm_X8_go 72 cl [] h (g_Q h) := by
  obtain ⟨x24, a1, -, a2⟩ := x_fok_ok hI ty_24
  refine wp_stp (ix := (.aload_n 0, 1)) (t := (73, cl, [.ref 316], h)) rfl (by show (rk_lr cl 0).map _ = _; unfold rk_lr; rw [hcl]; rfl) ?_
  obtain ⟨vs, g1, g2, g3⟩ := hI 316 _ (show rk_Y 316 = some _ from rfl)
  refine wp_gf (f := (8, 24, 0, false, false)) rfl rfl g1 rfl a1 ?_
  refine wp_if1 (tg := 130) rfl rfl (fun c1 => ?_) (fun c1 => ?_)
  · exact wp_ret rfl rfl ⟨hI, fun b k _ => rfl, trivial⟩
  · have := of_decide_eq_false (p := x24.toInt ≤ 0) c1
    omega
theorem g_loop {D : Nat} (hD : 9 ≤ D) : ∀ (N d : Nat) (h : rk_S) (cl : rk_L), rk_Iv rk_Y h → d ≤ 12 → gI d h → gmu h ≤ (N : Int) → rk_find cl 0 = some (.ref 316) → rk_wp D rm_X8_go 72 cl [] h (g_Q h) := by
  intro N
  induction N with
  | zero =>
    intro d h cl hI hd hG hN hcl
    cases d with
    | zero => exact g_out hI hG.1 hcl
    | succ d =>
      obtain ⟨x34, -, i3, i2⟩ := x_fok_ok hI ty_34
      rw [← i2] at i3
      have i4 := x_one1 i3
      have := hG.1
      unfold gmu at hN
      split at hN <;> omega
  | succ N ih =>
    intro d h cl hI hd hG hN hcl
    by_cases hz : d = 0
    · subst hz
      exact g_out hI hG.1 hcl
    have key : ∀ (xu : List xFc) (u c : Int) (cl' : rk_L) (h' : rk_S), (2 ≤ d → xu = g_xu) → rk_find cl' 0 = some (.ref 316) → rk_Iv rk_Y h' → xfr (gP d) h h' → xHA (g_rt h d u c) h' none (g_al xu) → rk_wp D rm_X8_go 72 cl' [] h' (g_Q h) := by
      intro xu u c cl' h' hxu hcl' hI' hf hH
      obtain ⟨⟨d', hd', hG'⟩, hmu⟩ := g_next hI hI' (by omega) hd hG hf hxu hH
      refine wp_weak (ih d' h' cl' hI' hd' hG' (by omega) hcl') (fun v g hv => ⟨hv.1, fun b k hn => ?_, hv.2.2⟩)
      rw [hv.2.1 b k hn]
      exact hf b k (fun z => hn (g_PC z))
    by_cases h1 : d = 1
    · subst h1
      exact g_cases (u := 0) g_r1 g_e01 g_e11 g_f1 g_pc1 hI (by omega) hd hG hD (xin_1 (by omega) (by omega)) (xin_1 (by omega) (by omega)) (fun c => g_kn0) hcl (fun c cl' h' e1 e2 e3 e4 => key [] 0 c cl' h' (fun z => absurd z (by omega)) e1 e2 e3 e4)
    · obtain ⟨x337, f1, f3, f2⟩ := x_aok_ok hI ty_337 (k := d - 2) (by omega)
      have f4 := x_one1 f3
      have f5 := (hG.2 (d - 2) (by omega)).2.2 (by omega)
      refine g_cases (u := rk_iv h 337 (d - 2)) g_r2 g_e02 g_e12 g_f2 g_pc2 hI (by omega) hd hG hD (xin_1 (by omega) (by omega)) (xin_1 (by omega) (by omega)) (fun c p hp => ?_) hcl (fun c cl' h' e1 e2 e3 e4 => key g_xu _ c cl' h' (fun _ => rfl) e1 e2 e3 e4)
      cases List.mem_singleton.mp hp
      exact ⟨d - 2, x337, xE2 rfl rfl (by show -2 * 1 + 1 * (d : Int) = _; omega), f1, xE1 rfl (by show 1 * rk_iv h 337 (d - 2) = _; omega)⟩
