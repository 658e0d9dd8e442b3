/-! the reference's run -/
section RKRU
variable {N : Nat} {ln : Nat → Nat} {cd : Nat → Nat → Int} {P : Nat → Prop}
theorem ts_loop {h : rk_S} (hG : yG h) (hN : (gi h 316 0).toInt = N) (hN2 : N ≤ 10) : ∀ (n d : Nat) (o : Option Value × rk_S) (w j : Int32) (jn : Nat), j.toInt = jn → jn ≤ N → (∀ b, bt w b = true → b < jn ∧ ¬ (gi h 319 b).toInt = 0) → rk_ex n d rm_X8_toldSet 4 [(0, .ref 316), (1, .int w), (2, .int j)] [] h = some o → ∃ y, o = (some (.int y), h) ∧ ∀ b, bt y b = true → b < N ∧ ¬ (gi h 319 b).toInt = 0 := by
  intro n
  induction n using Nat.strongRecOn with
  | ind n ih =>
    intro d o w j jn hj hjn hp E
    have hj1 := y_inc hj (by omega)
    have A := ym_ts hG E
    rw [y_ix hj, hN] at A
    rcases A with ⟨c1, -, rfl⟩ | ⟨c1, c2, m, hm, -, E'⟩ | ⟨c1, c2, m, hm, -, E'⟩
    · refine ⟨_, rfl, fun b hb => ?_⟩
      exact ⟨by have := (hp b hb).1; omega, (hp b hb).2⟩
    · refine ih m hm d o _ _ (jn + 1) hj1 (by omega) (fun b hb => ?_) E'
      rw [bt_or, bt_zero, Bool.or_false] at hb
      exact ⟨by have := (hp b hb).1; omega, (hp b hb).2⟩
    · refine ih m hm d o _ _ (jn + 1) hj1 (by omega) (fun b hb => ?_) E'
      rw [bt_or, bt_shl (by omega) (by omega), Bool.or_eq_true, decide_eq_true_eq] at hb
      rcases hb with hb | hb
      · exact ⟨by have := (hp b hb).1; omega, (hp b hb).2⟩
      · have e : b = jn := by omega
        subst e
        exact ⟨by omega, c2⟩
theorem ts_ok {n d : Nat} {h : rk_S} {o : Option Value × rk_S} (hG : yG h) (hN : (gi h 316 0).toInt = N) (hN2 : N ≤ 10) (E : rk_ex n d rm_X8_toldSet 0 [(0, .ref 316)] [] h = some o) : ∃ y, o = (some (.int y), h) ∧ ∀ b, bt y b = true → b < N ∧ ¬ (gi h 319 b).toInt = 0 := by
  obtain ⟨m, hm, -, E1⟩ := ym_ts0 hG E
  exact ts_loop hG hN hN2 m d o 0 0 0 rfl (by omega) (fun b hb => by rw [bt_zero] at hb; cases hb) E1
/-- the reference's run: unknown, or what the document says -/
theorem mru_ok (hPu : ∀ r, P r → ∀ i, i < ln r → eok P N (cd r i)) {n d rm : Nat} {h : rk_S} {o : Option Value × rk_S} {r a b c : Int32} {S : eS} {L : Int32} (hG : yG h) (hP : MP N ln cd h) (hV : VM N ln cd 0 h) (hK : ∀ r, r < N → ¬ (gi h 319 r).toInt = 0 → P r) (hrm : (gi h 316 4).toInt = rm) (hrm2 : rm ≤ 32) (hW : MW 0 h S L) (E : rk_ex n d rm_X8_run 0 [(0, .ref 316), (1, .int r), (2, .int a), (3, .int b), (4, .int c)] [] h = some o) :
    ((r.toInt < 0 ∨ (N : Int) ≤ r.toInt) ∧ o = (some (.int (-1)), h)) ∨
    ∃ (rn : Nat) (y : Int32) (h' : rk_S) (e : Nat) (v : Int32) (S' : eS) (L' : Int32) (st' : Nat) (sr : eB) (wi : Nat) (nr : eB), r.toInt = rn ∧ rn < N ∧ o = (some (.int y), h') ∧ EV true N ln cd 11 rn (e3 a b c) S L 0 = (e, v, S', L', st', sr, wi, nr) ∧ y.toInt = tel e ∧ gi h' 316 44 = v ∧ yG h' ∧ VM N ln cd 0 h' ∧ MW 0 h' S' L' ∧ ∀ b k, ¬ (b = 316 ∧ ((20 ≤ k ∧ k ≤ 24) ∨ (34 ≤ k ∧ k ≤ 44))) → ¬ mtb 0 b k → ¬ (334 ≤ b ∧ b ≤ 343) → rk_get h' b k = rk_get h b k := by
  have hN := hP.1
  have hN2 := hP.2.1
  have hn1 : ((gi h 316 0) - (1 : Int32)).toInt = (N : Int) - 1 := by
    rw [Int32.toInt_sub, hN, show (1 : Int32).toInt = 1 from rfl, rk_bm (by omega) (by omega)]
  have A := ym_ru hG E
  rw [hn1] at A
  rcases A with ⟨c1, -, rfl⟩ | ⟨c1, c2, -, rfl⟩ | ⟨c1, c2, m, hm, -, E1⟩
  · exact Or.inl ⟨Or.inl c1, rfl⟩
  · exact Or.inl ⟨Or.inr (by omega), rfl⟩
  refine Or.inr ?_
  obtain ⟨m1, d1, o1, hm1, E2, E3⟩ := E_call (ar := ([.ref 316], [.int (0 : Int32), .ref 316])) rfl rfl rfl rfl rfl rfl E1
  obtain ⟨w, rfl, hw⟩ := ts_ok hG hN hN2 E2
  obtain ⟨m2, hm2, -, E4⟩ := ym_ru1 hG E3
  obtain ⟨m3, d3, o3, hm3, E5, E6⟩ := E_call (ar := ([.ref 316, .int (0 : Int32), .int w, .int (gi h 316 4), .int r, .int a, .int b, .int c], [])) rfl rfl rfl rfl rfl rfl E4
  obtain ⟨h1, e, v, S', L', st', sr, wi, nr, rfl, ev, g1, g2, g3, g4, g5, g6⟩ := mgo_ok (tn := 0) (rn := r.toInt.toNat) hPu (by omega) hG hP rfl hV (fun r hr hb => hK r hr (hw r hb).2) hrm hrm2 (by omega) (by omega) hW E5
  obtain ⟨b1, b2, b3, b4, b5, b6, b7⟩ := EV_b (MP_b hP) _ _ (by omega) _ _ _ _ _ _ _ _ _ _ _ _ ev (by omega)
  have hte : tel e = 0 ↔ e = 0 := by
    unfold tel
    split <;> omega
  have fin : ∀ (x : Int32), x = v → yG (rk_pt (rk_pt (rk_pt (rk_pt (rk_pt (rk_pt (rk_pt h1 316 42 (.int (1 : Int32))) 316 44 (.int x)) 343 0 (.int (gi h1 316 34))) 343 1 (.int (gi h1 316 35))) 343 2 (.int (gi h1 316 36))) 343 3 (.int (gi h1 316 37))) 343 4 (.int (gi h1 316 38))) → o = (some (.int (gi h1 316 39)), rk_pt (rk_pt (rk_pt (rk_pt (rk_pt (rk_pt (rk_pt h1 316 42 (.int (1 : Int32))) 316 44 (.int x)) 343 0 (.int (gi h1 316 34))) 343 1 (.int (gi h1 316 35))) 343 2 (.int (gi h1 316 36))) 343 3 (.int (gi h1 316 37))) 343 4 (.int (gi h1 316 38))) → ∃ (rn : Nat) (y : Int32) (h' : rk_S) (e : Nat) (v : Int32) (S' : eS) (L' : Int32) (st' : Nat) (sr : eB) (wi : Nat) (nr : eB), r.toInt = rn ∧ rn < N ∧ o = (some (.int y), h') ∧ EV true N ln cd 11 rn (e3 a b c) S L 0 = (e, v, S', L', st', sr, wi, nr) ∧ y.toInt = tel e ∧ gi h' 316 44 = v ∧ yG h' ∧ VM N ln cd 0 h' ∧ MW 0 h' S' L' ∧ ∀ b k, ¬ (b = 316 ∧ ((20 ≤ k ∧ k ≤ 24) ∨ (34 ≤ k ∧ k ≤ 44))) → ¬ mtb 0 b k → ¬ (334 ≤ b ∧ b ≤ 343) → rk_get h' b k = rk_get h b k := by
    intro x hx hG2 ho
    have f : ∀ b k, ¬ (b = 316 ∧ (k = 42 ∨ k = 44)) → ¬ b = 343 → rk_get (rk_pt (rk_pt (rk_pt (rk_pt (rk_pt (rk_pt (rk_pt h1 316 42 (.int (1 : Int32))) 316 44 (.int x)) 343 0 (.int (gi h1 316 34))) 343 1 (.int (gi h1 316 35))) 343 2 (.int (gi h1 316 36))) 343 3 (.int (gi h1 316 37))) 343 4 (.int (gi h1 316 38))) b k = rk_get h1 b k := fun b k z1 z2 => by
      rw [rk_get_ne (by omega), rk_get_ne (by omega), rk_get_ne (by omega), rk_get_ne (by omega), rk_get_ne (by omega), rk_get_ne (by omega), rk_get_ne (by omega)]
    refine ⟨r.toInt.toNat, _, _, e, v, S', L', st', sr, wi, nr, by omega, by omega, ho, ev, g4, ?_, hG2, VM_eq (fun b k z1 z2 => f b k (by omega) (by omega)) g2, MW_eq (fun b k z => f b k (by omega) (by omega)) g3, fun b k z1 z2 z3 => (f b k (by omega) (by omega)).trans (g6 b k (by omega) z2 (by omega))⟩
    rw [gi_x (by decide), gi_x (by decide), gi_x (by decide), gi_x (by decide), gi_x (by decide), gi_s (yE_pt.mpr (yE_m g1 (by decide)))]
    exact hx
  have B := ym_ru2 g1 E6
  rw [g4, hte] at B
  rcases B with ⟨c3, hG2, ho⟩ | ⟨c3, hG2, ho⟩
  · exact fin 0 (b7 c3).symm hG2 ho
  · exact fin _ g5 hG2 ho
end RKRU
