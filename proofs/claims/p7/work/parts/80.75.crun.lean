/-! the class: what is let go of the shelf leaves it right -/
section RKCR
variable {N : Nat} {ln : Nat → Nat} {cd : Nat → Nat → Int}
theorem do_loop {r : Int32} : ∀ (n d : Nat) (h : rk_S) (o : Option Value × rk_S) (j : Int32), yG h → SV N ln cd h → rk_ex n d rm_X5_dropOf 7 [(0, .ref 20), (1, .int r), (2, .int j)] [] h = some o → ∃ h', o = (none, h') ∧ yG h' ∧ SV N ln cd h' ∧ ∀ b k, b ≠ 21 → ¬ (b = 20 ∧ k = 1) → rk_get h' b k = rk_get h b k := by
  intro n
  induction n using Nat.strongRecOn with
  | ind n ih =>
    intro d h o j hG hS E
    rcases ys_do hG E with ⟨-, -, rfl⟩ | ⟨-, -, m, hm, -, E'⟩ | ⟨-, -, m, hm, -, E'⟩
    · exact ⟨h, rfl, hG, hS, fun _ _ _ _ => rfl⟩
    · exact ih m hm d h o _ hG hS E'
    · obtain ⟨m1, d1, o1, hm1, E2, E3⟩ := E_call (ar := ([.ref 20, .int j], [])) rfl rfl rfl rfl rfl rfl E'
      obtain ⟨h1, rfl, g1, g2, g3⟩ := drop_ok hG hS E2
      obtain ⟨m2, hm2, -, E4⟩ := ys_do1 g1 E3
      obtain ⟨h', e1, e2, e3', e4⟩ := ih m2 (by omega) d h1 o _ g1 g2 E4
      exact ⟨h', e1, e2, e3', fun b k z1 z2 => (e4 b k z1 z2).trans (g3 b k z1 z2)⟩
theorem do_ok {n d : Nat} {h : rk_S} {o : Option Value × rk_S} {r : Int32} (hG : yG h) (hS : SV N ln cd h) (E : rk_ex n d rm_X5_dropOf 0 [(0, .ref 20), (1, .int r)] [] h = some o) : ∃ h', o = (none, h') ∧ yG h' ∧ SV N ln cd h' ∧ ∀ b k, b ≠ 21 → ¬ (b = 20 ∧ k = 1) → rk_get h' b k = rk_get h b k := by
  obtain ⟨m, hm, -, E1⟩ := ys_do0 hG E
  exact do_loop m d h o _ hG hS E1
theorem fu_loop {a b w : Int32} : ∀ (n d : Nat) (h : rk_S) (o : Option Value × rk_S) (j : Int32), yG h → SV N ln cd h → rk_ex n d rm_X5_furnish 14 [(0, .ref 20), (1, .int a), (2, .int b), (3, .int w), (4, .int j)] [] h = some o → ∃ y h', o = (some (.int y), h') ∧ yG h' ∧ SV N ln cd h' ∧ ∀ b k, b ≠ 21 → b ≠ 20 → rk_get h' b k = rk_get h b k := by
  intro n
  induction n using Nat.strongRecOn with
  | ind n ih =>
    intro d h o j hG hS E
    rcases ys_fu hG E with ⟨-, hG', rfl⟩ | ⟨-, m, hm, -, E'⟩
    · have f : ∀ b' k, ¬ (b' = 20 ∧ (k = 2 ∨ k = 3)) → rk_get (rk_pt (rk_pt h 20 2 (.int a)) 20 3 (.int b)) b' k = rk_get h b' k := fun b' k z => (rk_get_ne (by omega)).trans (rk_get_ne (by omega))
      exact ⟨_, _, rfl, hG', SV_eq (fun b' k hb => f b' k (by omega)) hS, fun b' k _ z => f b' k (by omega)⟩
    · obtain ⟨m1, d1, o1, hm1, E2, E3⟩ := E_call (ar := ([.ref 20, .int (0 : Int32)], [])) rfl rfl rfl rfl rfl rfl E'
      obtain ⟨h1, rfl, g1, g2, g3⟩ := drop_ok hG hS E2
      obtain ⟨m2, hm2, -, E4⟩ := ys_fu1 g1 E3
      obtain ⟨y, h', e1, e2, e3', e4⟩ := ih m2 (by omega) d h1 o _ g1 g2 E4
      exact ⟨y, h', e1, e2, e3', fun b k z1 z2 => (e4 b k z1 z2).trans (g3 b k z1 (by omega))⟩
theorem fu_ok {n d : Nat} {h : rk_S} {o : Option Value × rk_S} {a b : Int32} (hG : yG h) (hS : SV N ln cd h) (E : rk_ex n d rm_X5_furnish 0 [(0, .ref 20), (1, .int a), (2, .int b)] [] h = some o) : ∃ y h', o = (some (.int y), h') ∧ yG h' ∧ SV N ln cd h' ∧ ∀ b k, b ≠ 21 → b ≠ 20 → rk_get h' b k = rk_get h b k := by
  obtain ⟨m, hm, -, E1⟩ := ys_fu0 hG E
  exact fu_loop m d h o _ hG hS E1
end RKCR
