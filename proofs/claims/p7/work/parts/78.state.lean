/-! the state that class and reference share: the count, the lengths, the codes -/
def lC3 (h : rk_S) : Prop := rk_iv h 2 5 = rk_iv h 316 0 ∧ (∀ r : Nat, r < 10 → rk_iv h 14 r = rk_iv h 317 r) ∧ (∀ r : Nat, r < 10 → rk_iv h 2 5 ≤ r → rk_iv h 14 r = 0) ∧ (∀ r j : Nat, r < 10 → (j : Int) < rk_iv h 14 r → rk_iv h (4 + r) j = rk_iv h 318 (40 * r + j))
theorem lC3_eq {h h' : rk_S} (he : ∀ b k, (b = 2 ∨ (4 ≤ b ∧ b ≤ 14) ∨ (b = 316 ∧ k = 0) ∨ b = 317 ∨ b = 318) → rk_iv h' b k = rk_iv h b k) (hC : lC3 h) : lC3 h' := by
  obtain ⟨c1, c2, c3, c4⟩ := hC
  refine ⟨?_, fun r hr => ?_, fun r hr hn => ?_, fun r j hr hj => ?_⟩
  · rw [he 2 5 (by omega), he 316 0 (by omega)]; exact c1
  · rw [he 14 r (by omega), he 317 r (by omega)]; exact c2 r hr
  · rw [he 14 r (by omega)]
    rw [he 2 5 (by omega)] at hn
    exact c3 r hr hn
  · rw [he (4 + r) j (by omega), he 318 _ (by omega)]
    rw [he 14 r (by omega)] at hj
    exact c4 r j hr hj
theorem xNo_iv {h h' : rk_S} (hf : xfr xNo h h') (b k : Nat) : rk_iv h' b k = rk_iv h b k := rk_iv_eq (hf b k id)
theorem code_pair {h h1 h2 : rk_S} {r c : Int} {v1 v2 : Option Value} (hI : rk_Iv rk_Y h) (hC : lC3 h) (p1 : cPost 2 5 14 (fun r => 4 + r) (fun _ l => l) cPX h r c v1 h1) (p2 : cPost 316 0 317 (fun _ => 318) (fun r l => 40 * r + l) cPM h1 r c v2 h2) : ∃ x1 x2 : Int32, v1 = some (.int x1) ∧ v2 = some (.int x2) ∧ x1.toInt = x2.toInt ∧ lC3 h2 := by
  obtain ⟨x1, rfl, p1⟩ := p1
  obtain ⟨x2, rfl, p2⟩ := p2
  obtain ⟨xn, -, n2, n3⟩ := x_fok_ok hI ty_25
  rw [← n3] at n2
  have n4 := x_one1 n2
  have c1 := hC.1
  refine ⟨x1, x2, rfl, rfl, ?_⟩
  have hlen : 0 ≤ r → r < rk_iv h 2 5 → rk_iv h 14 r.toNat = rk_iv h 317 r.toNat := fun a b => hC.2.1 r.toNat (by omega)
  rcases p1 with ⟨a1, a2, a3⟩ | ⟨a1, a2, a3, a4, a5⟩ | ⟨a1, a2, a3, a4, a5, a6⟩ | ⟨a2, a3, a4, a5, a1, a6, a7, a8⟩
  · have e1 := xNo_iv a3
    rw [e1 316 0] at p2
    rcases p2 with ⟨b1, b2, b3⟩ | ⟨b1, b2, b3, b4, b5⟩ | ⟨b1, b2, b3, b4, b5, b6⟩ | ⟨b2, b3, b4, b5, b1, b6, b7, b8⟩
    · have e2 := xNo_iv b3
      exact ⟨by omega, lC3_eq (fun b k _ => (e2 b k).trans (e1 b k)) hC⟩
    · omega
    · omega
    · omega
  · have e1 := xNo_iv a5
    rw [e1 316 0] at p2
    rcases p2 with ⟨b1, b2, b3⟩ | ⟨b1, b2, b3, b4, b5⟩ | ⟨b1, b2, b3, b4, b5, b6⟩ | ⟨b2, b3, b4, b5, b1, b6, b7, b8⟩
    · omega
    · have e2 := xNo_iv b5
      exact ⟨by omega, lC3_eq (fun b k _ => (e2 b k).trans (e1 b k)) hC⟩
    · exact absurd b4 a4
    · exact absurd b4 a4
  · have e1 := xNo_iv a6
    have hl := hlen a2 a3
    rw [e1 316 0, e1 317] at p2
    rcases p2 with ⟨b1, b2, b3⟩ | ⟨b1, b2, b3, b4, b5⟩ | ⟨b1, b2, b3, b4, b5, b6⟩ | ⟨b2, b3, b4, b5, b1, b6, b7, b8⟩
    · omega
    · exact absurd a4 b4
    · have e2 := xNo_iv b6
      exact ⟨by omega, lC3_eq (fun b k _ => (e2 b k).trans (e1 b k)) hC⟩
    · omega
  · have hl := hlen a2 a3
    have e316 : rk_iv h1 316 0 = rk_iv h 316 0 := rk_iv_eq (a8 316 0 (by unfold cPX; omega))
    have e317 : ∀ j, rk_iv h1 317 j = rk_iv h 317 j := fun j => rk_iv_eq (a8 317 j (by unfold cPX; omega))
    rw [e316, e317] at p2
    rcases p2 with ⟨b1, b2, b3⟩ | ⟨b1, b2, b3, b4, b5⟩ | ⟨b1, b2, b3, b4, b5, b6⟩ | ⟨b2, b3, b4, b5, b1, b6, b7, b8⟩
    · omega
    · exact absurd a4 b4
    · omega
    · have hr10 : r.toNat < 10 := by omega
      obtain ⟨xl, -, l2, l3⟩ := x_aok_ok hI ty_14 (k := r.toNat) hr10
      rw [← l3] at l2
      have l4 := x_one1 l2
      -- behind both calls
      have f2 : ∀ b k, ¬ cPM r.toNat (rk_iv h 317 r.toNat).toNat b k → rk_iv h2 b k = rk_iv h1 b k := fun b k hn => rk_iv_eq (b8 b k hn)
      have f1 : ∀ b k, ¬ cPX r.toNat (rk_iv h 14 r.toNat).toNat b k → rk_iv h1 b k = rk_iv h b k := fun b k hn => rk_iv_eq (a8 b k hn)
      have g25 : rk_iv h2 2 5 = rk_iv h 2 5 := (f2 2 5 (by unfold cPM; omega)).trans (f1 2 5 (by unfold cPX; omega))
      have g316 : rk_iv h2 316 0 = rk_iv h 316 0 := (f2 316 0 (by unfold cPM; omega)).trans e316
      have g14 : ∀ j, rk_iv h2 14 j = rk_iv h1 14 j := fun j => f2 14 j (by unfold cPM; omega)
      have g14o : ∀ j, j ≠ r.toNat → rk_iv h2 14 j = rk_iv h 14 j := fun j hj => (g14 j).trans (f1 14 j (by unfold cPX; omega))
      have g317o : ∀ j, j ≠ r.toNat → rk_iv h2 317 j = rk_iv h 317 j := fun j hj => (f2 317 j (by unfold cPM; omega)).trans (e317 j)
      refine ⟨by omega, by rw [g25, g316]; exact c1, fun j hj => ?_, fun j hj hn => ?_, fun j i hj hi => ?_⟩
      · by_cases e : j = r.toNat
        · subst e
          rw [g14]
          omega
        · rw [g14o j e, g317o j e]
          exact hC.2.1 j hj
      · rw [g25] at hn
        have e : j ≠ r.toNat := by omega
        rw [g14o j e]
        exact hC.2.2.1 j hj hn
      · by_cases e : j = r.toNat
        · subst e
          by_cases ei : (i : Int) = rk_iv h 14 r.toNat
          · have hi2 : i = (rk_iv h 14 r.toNat).toNat := by omega
            have hi3 : i = (rk_iv h 317 r.toNat).toNat := by omega
            have q1 : rk_iv h1 (4 + r.toNat) i = c := by rw [hi2]; exact a7
            have q2 : rk_iv h2 318 (40 * r.toNat + i) = c := by rw [hi3]; exact b7
            rw [f2 (4 + r.toNat) i (by unfold cPM; omega), q1, q2]
          · have hi4 : (i : Int) < rk_iv h 14 r.toNat := by
              rw [g14, a6] at hi
              omega
            have q1 : rk_iv h2 (4 + r.toNat) i = rk_iv h (4 + r.toNat) i := (f2 _ _ (by unfold cPM; omega)).trans (f1 _ _ (by unfold cPX; omega))
            have q2 : rk_iv h2 318 (40 * r.toNat + i) = rk_iv h 318 (40 * r.toNat + i) := (f2 _ _ (by unfold cPM; omega)).trans (f1 _ _ (by unfold cPX; omega))
            rw [q1, q2]
            exact hC.2.2.2 _ i hj hi4
        · rw [g14o j e] at hi
          obtain ⟨xl', -, l2', l3'⟩ := x_aok_ok hI ty_14 (k := j) hj
          rw [← l3'] at l2'
          have l4' := x_one1 l2'
          have q1 : rk_iv h2 (4 + j) i = rk_iv h (4 + j) i := (f2 _ _ (by unfold cPM; omega)).trans (f1 _ _ (by unfold cPX; omega))
          have q2 : rk_iv h2 318 (40 * j + i) = rk_iv h 318 (40 * j + i) := (f2 _ _ (by unfold cPM; omega)).trans (f1 _ _ (by unfold cPX; omega))
          rw [q1, q2]
          exact hC.2.2.2 j i hj hi
