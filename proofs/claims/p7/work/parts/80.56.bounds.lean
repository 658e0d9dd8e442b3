/-! how far a run goes: ends, steps, depth, what it may have read; reading first or refusing first is all the same but for what was read -/
def okc (c : Int) : Prop := 0 ≤ c ∧ c ≤ 620 ∧ (100 ≤ c → c < 200 → c < 103) ∧ (200 ≤ c → c < 300 → c < 216) ∧ (300 ≤ c → c < 400 → c < 316) ∧ (400 ≤ c → c < 500 → c < 410) ∧ (500 ≤ c → c < 600 → c < 509) ∧ (600 ≤ c → 601 ≤ c)
theorem eup_tr {f : eB} {i b : Nat} (h : eup f i true b = true) : b = i ∨ f b = true := by
  unfold eup at h
  split at h
  · rename_i e
    exact Or.inl e
  · exact Or.inr h
theorem eif_tr {fl : Bool} {f : eB} {i b : Nat} (h : (if fl = true then eup f i true else f) b = true) : b = i ∨ f b = true := by
  split at h
  · exact eup_tr h
  · exact Or.inr h
theorem eor_tr {f g : eB} {b : Nat} (h : eor f g b = true) : f b = true ∨ g b = true := by
  unfold eor at h
  rw [Bool.or_eq_true] at h
  exact h
def entB (N : Nat) (ent : Option eE) (k : Nat) : Prop := ∀ E, ent = some E → ∀ y, y < N → ∀ (a S : eS) (L : Int32) (st e : Nat) (v : Int32) (S' : eS) (L' : Int32) (st' : Nat) (sr : eB) (wi : Nat) (nr : eB), E y a S L st = (e, v, S', L', st', sr, wi, nr) → st ≤ 2000 → e ≤ 6 ∧ st ≤ st' ∧ st' ≤ 2000 ∧ wi + 1 ≤ k ∧ ∀ b, sr b = true → b < 16
section RKEB
variable {fl : Bool} {N k : Nat} {ent : Option eE} {a : eS}
theorem cst_b (hE : entB N ent k) {c : Int} (hc : okc c) {sz : Nat} {rw : eS} {nr sr : eB} {wi : Nat} {S : eS} {L : Int32} {st e j sz' : Nat} {rw' : eS} {nr' sr' : eB} {wi' : Nat} {S' : eS} {L' : Int32} {st' : Nat} (h : cst fl N ent a c sz rw nr sr wi S L st = (e, j, sz', rw', nr', sr', wi', S', L', st')) (hst : st ≤ 2000) (hw : wi ≤ k) (hn : ∀ b, nr b = true → b < 3) (hs : ∀ b, sr b = true → b < 16) : e ≤ 6 ∧ st ≤ st' ∧ st' ≤ 2000 ∧ wi' ≤ k ∧ (∀ b, nr' b = true → b < 3) ∧ (∀ b, sr' b = true → b < 16) := by
  obtain ⟨c0, c1, c2, c3, c4, c5, c6, c7⟩ := hc
  unfold cst at h
  by_cases h1 : c < 100
  · rw [if_pos h1] at h
    split at h <;> cases h <;> exact ⟨by omega, by omega, hst, hw, hn, hs⟩
  rw [if_neg h1] at h
  by_cases h3 : c < 200
  · rw [if_pos h3] at h
    split at h <;> cases h
    · exact ⟨by omega, by omega, hst, hw, fun b hb => by rcases eup_tr hb with z | z; (omega); exact hn b z, hs⟩
    · exact ⟨by omega, by omega, hst, hw, fun b hb => by rcases eif_tr hb with z | z; (omega); exact hn b z, hs⟩
  rw [if_neg h3] at h
  by_cases h4 : c < 300
  · rw [if_pos h4] at h
    split at h <;> cases h
    · exact ⟨by omega, by omega, hst, hw, hn, fun b hb => by rcases eup_tr hb with z | z; (omega); exact hs b z⟩
    · exact ⟨by omega, by omega, hst, hw, hn, fun b hb => by rcases eif_tr hb with z | z; (omega); exact hs b z⟩
  rw [if_neg h4] at h
  by_cases h5 : c < 400
  · rw [if_pos h5] at h
    split at h <;> cases h <;> exact ⟨by omega, by omega, hst, hw, hn, hs⟩
  rw [if_neg h5] at h
  by_cases h6 : c < 500
  · rw [if_pos h6] at h
    by_cases h7 : sz < 3
    · rw [if_pos h7] at h
      cases h
      exact ⟨by omega, by omega, hst, hw, hn, hs⟩
    rw [if_neg h7] at h
    by_cases h8 : N ≤ (c - 400).toNat
    · rw [if_pos h8] at h
      cases h
      exact ⟨by omega, by omega, hst, hw, hn, hs⟩
    rw [if_neg h8] at h
    cases hent : ent with
    | none =>
      rw [hent] at h
      cases h
      exact ⟨by omega, by omega, hst, hw, hn, hs⟩
    | some E =>
      rw [hent] at h
      dsimp only at h
      cases ho : E (c - 400).toNat (e3 (rw (sz - 3)) (rw (sz - 2)) (rw (sz - 1))) S L st with
      | mk e1 q =>
        obtain ⟨v, S1, L1, st1, sr1, wi1, nr1⟩ := q
        rw [ho] at h
        cases h
        obtain ⟨g1, g2, g3, g4, g5⟩ := hE E hent _ (by omega) _ _ _ _ _ _ _ _ _ _ _ _ ho hst
        exact ⟨g1, g2, g3, Nat.max_le.mpr ⟨hw, g4⟩, hn, fun b hb => by rcases eor_tr hb with z | z; exact hs b z; exact g5 b z⟩
  rw [if_neg h6] at h
  by_cases h9 : c < 506
  · rw [if_pos h9] at h
    split at h
    · cases h; exact ⟨by omega, by omega, hst, hw, hn, hs⟩
    · split at h <;> cases h <;> exact ⟨by omega, by omega, hst, hw, hn, hs⟩
  rw [if_neg h9] at h
  by_cases h10 : c < 507
  · rw [if_pos h10] at h
    split at h <;> cases h <;> exact ⟨by omega, by omega, hst, hw, hn, hs⟩
  rw [if_neg h10] at h
  by_cases h11 : c < 508
  · rw [if_pos h11] at h
    split at h
    · cases h; exact ⟨by omega, by omega, hst, hw, hn, hs⟩
    · split at h <;> cases h <;> exact ⟨by omega, by omega, hst, hw, hn, hs⟩
  rw [if_neg h11] at h
  by_cases h12 : c < 600
  · rw [if_pos h12] at h
    split at h <;> cases h <;> exact ⟨by omega, by omega, hst, hw, hn, hs⟩
  rw [if_neg h12] at h
  split at h <;> cases h <;> exact ⟨by omega, by omega, hst, hw, hn, hs⟩
theorem wlk_b (hE : entB N ent k) {ln : Nat} {cd : Nat → Int} (hcd : ∀ i, i < ln → okc (cd i)) : ∀ (f p sz : Nat) (rw : eS) (nr sr : eB) (wi : Nat) (S : eS) (L : Int32) (st e : Nat) (v : Int32) (sz' : Nat) (rw' : eS) (nr' sr' : eB) (wi' : Nat) (S' : eS) (L' : Int32) (st' : Nat), wlk fl N ent a ln cd f p (sz, rw, nr, sr, wi, S, L, st) = (e, v, sz', rw', nr', sr', wi', S', L', st') → 0 < f → ln < f + p → st ≤ 2000 → wi ≤ k → (∀ b, nr b = true → b < 3) → (∀ b, sr b = true → b < 16) → e ≤ 6 ∧ st ≤ st' ∧ st' ≤ 2000 ∧ wi' ≤ k ∧ (∀ b, nr' b = true → b < 3) ∧ (∀ b, sr' b = true → b < 16) ∧ (e ≠ 0 → v = 0) := by
  intro f
  induction f with
  | zero =>
    intro p sz rw nr sr wi S L st e v sz' rw' nr' sr' wi' S' L' st' h h0 hf hst hw hn hs
    omega
  | succ f ih =>
    intro p sz rw nr sr wi S L st e v sz' rw' nr' sr' wi' S' L' st' h _ hf hst hw hn hs
    rw [wlk] at h
    by_cases h1 : ln ≤ p
    · rw [if_pos h1] at h
      cases h
      exact ⟨by omega, Nat.le_refl _, hst, hw, hn, hs, fun z => absurd rfl z⟩
    rw [if_neg h1] at h
    by_cases h2 : 2000 ≤ st
    · rw [if_pos h2] at h
      cases h
      exact ⟨by omega, Nat.le_refl _, hst, hw, hn, hs, fun _ => rfl⟩
    rw [if_neg h2] at h
    cases hq : cst fl N ent a (cd p) sz rw nr sr wi S L (st + 1) with
    | mk e1 q =>
      obtain ⟨j, sz1, rw1, nr1, sr1, wi1, S1, L1, st1⟩ := q
      rw [hq] at h
      dsimp only at h
      obtain ⟨g1, g2, g3, g4, g5, g6⟩ := cst_b hE (hcd p (by omega)) hq (by omega) hw hn hs
      by_cases h0 : e1 = 0
      · rw [if_pos h0] at h
        obtain ⟨i1, i2, i3, i4, i5, i6, i7⟩ := ih _ _ _ _ _ _ _ _ _ _ _ _ _ _ _ _ _ _ _ h (by omega) (by omega) g3 g4 g5 g6
        exact ⟨i1, by omega, i3, i4, i5, i6, i7⟩
      · rw [if_neg h0] at h
        cases h
        exact ⟨g1, by omega, g3, g4, g5, g6, fun _ => rfl⟩
end RKEB
theorem EV_b {fl : Bool} {N : Nat} {ln : Nat → Nat} {cd : Nat → Nat → Int} (hP : ∀ r, r < N → ln r ≤ 40 ∧ ∀ i, i < ln r → okc (cd r i)) : ∀ (k r : Nat), r < N → ∀ (a S : eS) (L : Int32) (st e : Nat) (v : Int32) (S' : eS) (L' : Int32) (st' : Nat) (sr : eB) (wi : Nat) (nr : eB), EV fl N ln cd k r a S L st = (e, v, S', L', st', sr, wi, nr) → st ≤ 2000 → e ≤ 6 ∧ st ≤ st' ∧ st' ≤ 2000 ∧ wi ≤ k ∧ (∀ b, nr b = true → b < 3) ∧ (∀ b, sr b = true → b < 16) ∧ (e ≠ 0 → v = 0) := by
  intro k
  induction k with
  | zero =>
    intro r hr a S L st e v S' L' st' sr wi nr h hst
    rw [EV_e] at h
    unfold EVp at h
    cases hw : wlk fl N (EVe fl N ln cd 0) a (ln r) (cd r) 41 0 (0, e0, eNo, eNo, 0, S, L, st) with
    | mk e1 q =>
      obtain ⟨v1, sz1, rw1, nr1, sr1, wi1, S1, L1, st1⟩ := q
      rw [hw] at h
      cases h
      exact wlk_b (k := 0) (fun E hE => by cases hE) (hP r hr).2 41 0 0 e0 eNo eNo 0 S L st _ _ _ _ _ _ _ _ _ _ hw (by decide) (by have := (hP r hr).1; omega) hst (Nat.le_refl _) (fun b hb => by cases hb) (fun b hb => by cases hb)
  | succ k ih =>
    intro r hr a S L st e v S' L' st' sr wi nr h hst
    rw [EV_e] at h
    unfold EVp at h
    cases hw : wlk fl N (EVe fl N ln cd (k + 1)) a (ln r) (cd r) 41 0 (0, e0, eNo, eNo, 0, S, L, st) with
    | mk e1 q =>
      obtain ⟨v1, sz1, rw1, nr1, sr1, wi1, S1, L1, st1⟩ := q
      rw [hw] at h
      cases h
      refine wlk_b (k := k + 1) (fun E hE y hy a S L st e v S' L' st' sr wi nr ho hst => ?_) (hP r hr).2 41 0 0 e0 eNo eNo 0 S L st _ _ _ _ _ _ _ _ _ _ hw (by decide) (by have := (hP r hr).1; omega) hst (Nat.zero_le _) (fun b hb => by cases hb) (fun b hb => by cases hb)
      cases hE
      obtain ⟨g1, g2, g3, g4, g5, g6, g7⟩ := ih y hy a S L st e v S' L' st' sr wi nr ho hst
      exact ⟨g1, g2, g3, by omega, g6⟩
theorem EVe_B {fl : Bool} {N : Nat} {ln : Nat → Nat} {cd : Nat → Nat → Int} (hP : ∀ r, r < N → ln r ≤ 40 ∧ ∀ i, i < ln r → okc (cd r i)) (k : Nat) : entB N (EVe fl N ln cd k) k := by
  intro E hE y hy a S L st e v S' L' st' sr wi nr ho hst
  cases k with
  | zero => cases hE
  | succ k =>
    cases hE
    obtain ⟨g1, g2, g3, g4, g5, g6, g7⟩ := EV_b hP k y hy a S L st e v S' L' st' sr wi nr ho hst
    exact ⟨g1, g2, g3, by omega, g6⟩
/-! with either way of reading -/
def entF (e1 e2 : Option eE) : Prop := (e1 = none ∧ e2 = none) ∨ ∃ E1 E2, e1 = some E1 ∧ e2 = some E2 ∧ ∀ (y : Nat) (a S : eS) (L : Int32) (st e : Nat) (v : Int32) (S' : eS) (L' : Int32) (st' : Nat) (sr : eB) (wi : Nat) (nr : eB), E1 y a S L st = (e, v, S', L', st', sr, wi, nr) → ∃ sr2 nr2, E2 y a S L st = (e, v, S', L', st', sr2, wi, nr2)
theorem fl_cst {fl fl2 : Bool} {N : Nat} {ent ent2 : Option eE} {a : eS} (hE : entF ent ent2) {c : Int} {sz : Nat} {rw : eS} {nr sr : eB} (nr2 sr2 : eB) {wi : Nat} {S : eS} {L : Int32} {st e j sz' : Nat} {rw' : eS} {nr' sr' : eB} {wi' : Nat} {S' : eS} {L' : Int32} {st' : Nat} (h : cst fl N ent a c sz rw nr sr wi S L st = (e, j, sz', rw', nr', sr', wi', S', L', st')) : ∃ nr2' sr2', cst fl2 N ent2 a c sz rw nr2 sr2 wi S L st = (e, j, sz', rw', nr2', sr2', wi', S', L', st') := by
  unfold cst at h ⊢
  by_cases h1 : c < 100
  · rw [if_pos h1] at h ⊢
    by_cases h2 : sz < 20
    · rw [if_pos h2] at h ⊢; cases h; exact ⟨_, _, rfl⟩
    · rw [if_neg h2] at h ⊢; cases h; exact ⟨_, _, rfl⟩
  rw [if_neg h1] at h ⊢
  by_cases h3 : c < 200
  · rw [if_pos h3] at h ⊢
    by_cases h2 : sz < 20
    · rw [if_pos h2] at h ⊢; cases h; exact ⟨_, _, rfl⟩
    · rw [if_neg h2] at h ⊢; cases h; exact ⟨_, _, rfl⟩
  rw [if_neg h3] at h ⊢
  by_cases h4 : c < 300
  · rw [if_pos h4] at h ⊢
    by_cases h2 : sz < 20
    · rw [if_pos h2] at h ⊢; cases h; exact ⟨_, _, rfl⟩
    · rw [if_neg h2] at h ⊢; cases h; exact ⟨_, _, rfl⟩
  rw [if_neg h4] at h ⊢
  by_cases h5 : c < 400
  · rw [if_pos h5] at h ⊢
    by_cases h2 : sz < 1
    · rw [if_pos h2] at h ⊢; cases h; exact ⟨_, _, rfl⟩
    · rw [if_neg h2] at h ⊢; cases h; exact ⟨_, _, rfl⟩
  rw [if_neg h5] at h ⊢
  by_cases h6 : c < 500
  · rw [if_pos h6] at h ⊢
    by_cases h7 : sz < 3
    · rw [if_pos h7] at h ⊢; cases h; exact ⟨_, _, rfl⟩
    rw [if_neg h7] at h ⊢
    by_cases h8 : N ≤ (c - 400).toNat
    · rw [if_pos h8] at h ⊢; cases h; exact ⟨_, _, rfl⟩
    rw [if_neg h8] at h ⊢
    rcases hE with ⟨q1, q2⟩ | ⟨E1, E2, q1, q2, q3⟩
    · rw [q1] at h
      rw [q2]
      cases h
      exact ⟨_, _, rfl⟩
    · rw [q1] at h
      rw [q2]
      dsimp only at h ⊢
      cases ho : E1 (c - 400).toNat (e3 (rw (sz - 3)) (rw (sz - 2)) (rw (sz - 1))) S L st with
      | mk e1 q =>
        obtain ⟨v, S1, L1, st1, sr1, wi1, nr1⟩ := q
        rw [ho] at h
        cases h
        obtain ⟨s2, n2, q4⟩ := q3 _ _ _ _ _ _ _ _ _ _ _ _ _ ho
        rw [q4]
        exact ⟨_, _, rfl⟩
  rw [if_neg h6] at h ⊢
  by_cases h9 : c < 506
  · rw [if_pos h9] at h ⊢
    by_cases h2 : sz < 2
    · rw [if_pos h2] at h ⊢; cases h; exact ⟨_, _, rfl⟩
    rw [if_neg h2] at h ⊢
    by_cases h8 : c = 503 ∧ (rw (sz - 1)).toInt = 0
    · rw [if_pos h8] at h ⊢; cases h; exact ⟨_, _, rfl⟩
    · rw [if_neg h8] at h ⊢; cases h; exact ⟨_, _, rfl⟩
  rw [if_neg h9] at h ⊢
  by_cases h10 : c < 507
  · rw [if_pos h10] at h ⊢
    by_cases h2 : sz < 1
    · rw [if_pos h2] at h ⊢; cases h; exact ⟨_, _, rfl⟩
    · rw [if_neg h2] at h ⊢; cases h; exact ⟨_, _, rfl⟩
  rw [if_neg h10] at h ⊢
  by_cases h11 : c < 508
  · rw [if_pos h11] at h ⊢
    by_cases h2 : sz < 1
    · rw [if_pos h2] at h ⊢; cases h; exact ⟨_, _, rfl⟩
    rw [if_neg h2] at h ⊢
    by_cases h2 : sz < 20
    · rw [if_pos h2] at h ⊢; cases h; exact ⟨_, _, rfl⟩
    · rw [if_neg h2] at h ⊢; cases h; exact ⟨_, _, rfl⟩
  rw [if_neg h11] at h ⊢
  by_cases h12 : c < 600
  · rw [if_pos h12] at h ⊢
    by_cases h2 : sz < 20
    · rw [if_pos h2] at h ⊢; cases h; exact ⟨_, _, rfl⟩
    · rw [if_neg h2] at h ⊢; cases h; exact ⟨_, _, rfl⟩
  rw [if_neg h12] at h ⊢
  by_cases h2 : sz < 1
  · rw [if_pos h2] at h ⊢; cases h; exact ⟨_, _, rfl⟩
  · rw [if_neg h2] at h ⊢; cases h; exact ⟨_, _, rfl⟩
theorem fl_wlk {fl fl2 : Bool} {N : Nat} {ent ent2 : Option eE} {a : eS} (hE : entF ent ent2) {ln : Nat} {cd : Nat → Int} : ∀ (f p sz : Nat) (rw : eS) (nr sr nr2 sr2 : eB) (wi : Nat) (S : eS) (L : Int32) (st e : Nat) (v : Int32) (sz' : Nat) (rw' : eS) (nr' sr' : eB) (wi' : Nat) (S' : eS) (L' : Int32) (st' : Nat), wlk fl N ent a ln cd f p (sz, rw, nr, sr, wi, S, L, st) = (e, v, sz', rw', nr', sr', wi', S', L', st') → ∃ nr2' sr2', wlk fl2 N ent2 a ln cd f p (sz, rw, nr2, sr2, wi, S, L, st) = (e, v, sz', rw', nr2', sr2', wi', S', L', st') := by
  intro f
  induction f with
  | zero =>
    intro p sz rw nr sr nr2 sr2 wi S L st e v sz' rw' nr' sr' wi' S' L' st' h
    cases h
    exact ⟨_, _, rfl⟩
  | succ f ih =>
    intro p sz rw nr sr nr2 sr2 wi S L st e v sz' rw' nr' sr' wi' S' L' st' h
    rw [wlk] at h ⊢
    by_cases h1 : ln ≤ p
    · rw [if_pos h1] at h ⊢; cases h; exact ⟨_, _, rfl⟩
    rw [if_neg h1] at h ⊢
    by_cases h2 : 2000 ≤ st
    · rw [if_pos h2] at h ⊢; cases h; exact ⟨_, _, rfl⟩
    rw [if_neg h2] at h ⊢
    cases hq : cst fl N ent a (cd p) sz rw nr sr wi S L (st + 1) with
    | mk e1 q =>
      obtain ⟨j, sz1, rw1, nr1, sr1, wi1, S1, L1, st1⟩ := q
      rw [hq] at h
      dsimp only at h
      obtain ⟨n2, s2, g⟩ := fl_cst (fl2 := fl2) hE nr2 sr2 hq
      rw [g]
      dsimp only
      by_cases h0 : e1 = 0
      · rw [if_pos h0] at h ⊢
        exact ih _ _ _ _ _ _ _ _ _ _ _ _ _ _ _ _ _ _ _ _ _ h
      · rw [if_neg h0] at h ⊢
        cases h
        exact ⟨_, _, rfl⟩
theorem fl_EV {fl fl2 : Bool} {N : Nat} {ln : Nat → Nat} {cd : Nat → Nat → Int} : ∀ (k r : Nat) (a S : eS) (L : Int32) (st e : Nat) (v : Int32) (S' : eS) (L' : Int32) (st' : Nat) (sr : eB) (wi : Nat) (nr : eB), EV fl N ln cd k r a S L st = (e, v, S', L', st', sr, wi, nr) → ∃ sr2 nr2, EV fl2 N ln cd k r a S L st = (e, v, S', L', st', sr2, wi, nr2) := by
  intro k
  induction k with
  | zero =>
    intro r a S L st e v S' L' st' sr wi nr h
    rw [EV_e] at h ⊢
    unfold EVp at h ⊢
    cases hw : wlk fl N (EVe fl N ln cd 0) a (ln r) (cd r) 41 0 (0, e0, eNo, eNo, 0, S, L, st) with
    | mk e1 q =>
      obtain ⟨v1, sz1, rw1, nr1, sr1, wi1, S1, L1, st1⟩ := q
      rw [hw] at h
      cases h
      obtain ⟨n2, s2, g⟩ := fl_wlk (fl2 := fl2) (ent2 := EVe fl2 N ln cd 0) (Or.inl ⟨rfl, rfl⟩) 41 0 0 e0 eNo eNo eNo eNo 0 S L st _ _ _ _ _ _ _ _ _ _ hw
      rw [g]
      exact ⟨_, _, rfl⟩
  | succ k ih =>
    intro r a S L st e v S' L' st' sr wi nr h
    rw [EV_e] at h ⊢
    unfold EVp at h ⊢
    cases hw : wlk fl N (EVe fl N ln cd (k + 1)) a (ln r) (cd r) 41 0 (0, e0, eNo, eNo, 0, S, L, st) with
    | mk e1 q =>
      obtain ⟨v1, sz1, rw1, nr1, sr1, wi1, S1, L1, st1⟩ := q
      rw [hw] at h
      cases h
      obtain ⟨n2, s2, g⟩ := fl_wlk (fl2 := fl2) (ent2 := EVe fl2 N ln cd (k + 1)) (Or.inr ⟨_, _, rfl, rfl, ih⟩) 41 0 0 e0 eNo eNo eNo eNo 0 S L st _ _ _ _ _ _ _ _ _ _ hw
      rw [g]
      exact ⟨_, _, rfl⟩
