/-! the reference: keep and room leave what is kept right -/
section RKRM
variable {N : Nat} {ln : Nat → Nat} {cd : Nat → Nat → Int}
theorem rm_loop {a b : Int32} {rm : Nat} : ∀ (n d : Nat) (h : rk_S) (o : Option Value × rk_S) (g : Int32), yG h → (gi h 316 21).toInt = ((0 : Nat) : Int) → (gi h 316 4).toInt = rm → VM N ln cd 0 h → rk_ex n d rm_X8_room 39 [(0, .ref 316), (1, .int a), (2, .int b), (3, .int g)] [] h = some o → ∃ y h', o = (some (.int y), h') ∧ yG h' ∧ VM N ln cd 0 h' ∧ mkf 0 h h' := by
  intro n
  induction n using Nat.strongRecOn with
  | ind n ih =>
    intro d h o g hG ht hrm hV E
    obtain ⟨cn, v1, v2, v3⟩ := id hV
    rcases ym_rm hG E with ⟨-, -, rfl⟩ | ⟨c1, m, hm, -, E1⟩
    · exact ⟨_, h, rfl, hG, hV, fun _ _ _ => rfl⟩
    · obtain ⟨m1, d1, o1, hm1, E2, E3⟩ := E_call (ar := ([.ref 316, .int (0 : Int32)], [])) rfl rfl rfl rfl rfl rfl E1
      obtain ⟨h1, rfl, g1, g2, g3, g4⟩ := lg_ok (p := 0) hG ht (by omega) hV v1 (by omega) rfl (by omega) E2
      obtain ⟨m2, hm2, -, E4⟩ := ym_rm1 g1 E3
      obtain ⟨y, h', e1, e2, e3', e4⟩ := ih m2 (by omega) d h1 o _ g1 (by rw [gi_eq (g4 _ _ (by omega))]; exact ht) (by rw [gi_eq (g4 _ _ (by omega))]; exact hrm) g2 E4
      exact ⟨y, h', e1, e2, e3', mkf_trans g4 e4⟩
theorem kp_loop {q z w : Int32} : ∀ (n d : Nat) (h : rk_S) (o : Option Value × rk_S) (j : Int32) (cn : Nat), yG h → (gi h 316 21).toInt = ((0 : Nat) : Int) → (gi h 322 0).toInt = cn → -1 ≤ j.toInt → j.toInt < cn → VM N ln cd 0 h → rk_ex n d rm_X8_keep 58 [(0, .ref 316), (1, .int q), (2, .int z), (3, .int w), (4, .int j)] [] h = some o → ∃ h', o = (some (.int w), h') ∧ yG h' ∧ VM N ln cd 0 h' ∧ mkf 0 h h' := by
  intro n
  induction n using Nat.strongRecOn with
  | ind n ih =>
    intro d h o j cn hG ht hcn hj0 hj1 hV E
    obtain ⟨c0, v1, v2, v3⟩ := id hV
    have hdec : ¬ j.toInt < 0 → (j + ((-1) : Int32)).toInt = j.toInt - 1 := fun z => by
      rw [Int32.toInt_add, show ((-1) : Int32).toInt = -1 from rfl, rk_bm (by omega) (by omega)]
      omega
    rcases ym_kp hG E with ⟨-, -, rfl⟩ | ⟨-, -, -, rfl⟩ | ⟨c1, -, -, m, hm, -, E1⟩ | ⟨c1, -, -, m, hm, -, E1⟩
    · exact ⟨h, rfl, hG, hV, fun _ _ _ => rfl⟩
    · exact ⟨h, rfl, hG, hV, fun _ _ _ => rfl⟩
    · exact ih m hm d h o _ cn hG ht hcn (by rw [hdec c1]; omega) (by rw [hdec c1]; omega) hV E1
    · obtain ⟨m1, d1, o1, hm1, E2, E3⟩ := E_call (ar := ([.ref 316, .int j], [])) rfl rfl rfl rfl rfl rfl E1
      obtain ⟨h1, rfl, g1, g2, g3, g4⟩ := lg_ok (p := j.toInt.toNat) hG ht (by omega) hV hcn (by omega) (by omega) (by omega) E2
      obtain ⟨m2, hm2, -, E4⟩ := ym_kp1 g1 E3
      obtain ⟨h', e1, e2, e3', e4⟩ := ih m2 (by omega) d h1 o _ (cn - 1) g1 (by rw [gi_eq (g4 _ _ (by omega))]; exact ht) g3 (by rw [hdec c1]; omega) (by rw [hdec c1]; omega) g2 E4
      exact ⟨h', e1, e2, e3', mkf_trans g4 e4⟩
end RKRM
