/-! the class's run: unknown, or what the document says -/
section RKCU
variable {N : Nat} {ln : Nat → Nat} {cd : Nat → Nat → Int} {P : Nat → Prop}
theorem cru_ok (hPu : ∀ r, P r → ∀ i, i < ln r → eok P N (cd r i)) {n d : Nat} {h : rk_S} {o : Option Value × rk_S} {r a b c : Int32} {S : eS} {L : Int32} (hG : yG h) (hP : PR N ln cd h) (hw : ∀ r, r < N → bt (gi h 1 8) r = true → P r) (hS : SV N ln cd h) (hW : WD h S L) (E : rk_ex n d rm_X7_run 0 [(0, .ref 1), (1, .int r), (2, .int a), (3, .int b), (4, .int c)] [] h = some o) :
    ((r.toInt < 0 ∨ (N : Int) ≤ r.toInt) ∧ o = (some (.int (-1)), h)) ∨
    ∃ (rn : Nat) (y : Int32) (h' : rk_S) (e : Nat) (v : Int32) (S' : eS) (L' : Int32) (st' : Nat) (sr : eB) (wi : Nat) (nr : eB), r.toInt = rn ∧ rn < N ∧ o = (some (.int y), h') ∧ EV false N ln cd 11 rn (e3 a b c) S L 0 = (e, v, S', L', st', sr, wi, nr) ∧ y.toInt = tel e ∧ gi h' 118 11 = v ∧ yG h' ∧ SV N ln cd h' ∧ WD h' S' L' ∧ ∀ b k, b < 18 ∨ 156 ≤ b → ¬ (b = 1 ∧ k = 9) → rk_get h' b k = rk_get h b k := by
  have hN := hP.1
  have A := yx_ru hG E
  rw [hN] at A
  rcases A with ⟨c1, -, rfl⟩ | ⟨c1, c2, -, rfl⟩ | ⟨c1, c2, m, hm, -, E1⟩
  · exact Or.inl ⟨Or.inl c1, rfl⟩
  · exact Or.inl ⟨Or.inr c2, rfl⟩
  refine Or.inr ?_
  obtain ⟨m1, d1, o1, hm1, E2, E3⟩ := E_call (ar := ([.ref 118, .int r, .int a, .int b, .int c, .int (gi h 1 8)], [])) rfl rfl rfl rfl rfl rfl E1
  obtain ⟨h1, e, v, S', L', st', sr, wi, nr, rfl, ev, g1, g2, g3, g4, g5, g6⟩ := start_ok (rn := r.toInt.toNat) hPu hG hP hw hS (by omega) (by omega) hW E2
  obtain ⟨hG2, rfl⟩ := yx_ru1 g1 E3
  have f : ∀ b k, ¬ (b = 1 ∧ k = 9) → rk_get (rk_pt h1 1 9 (.int (1 : Int32))) b k = rk_get h1 b k := fun b k z => rk_get_ne (by omega)
  refine ⟨r.toInt.toNat, _, _, e, v, S', L', st', sr, wi, nr, by omega, by omega, rfl, ev, ?_, ?_, hG2, SV_fr (fun b k z1 z2 => f b k (by omega)) g2, WD_eq (fun b k z => f b k (by omega)) g3, fun b k z1 z2 => (f b k z2).trans (g6 b k z1)⟩
  · rw [g4]
    rfl
  · rw [gi_eq (f _ _ (by omega))]
    exact g5
end RKCU
