/-! RUNS, as the document has them, with nothing kept: what a call comes to, what it reads, how deep it goes -/
abbrev eS : Type := Nat → Int32
abbrev eB : Type := Nat → Bool
/-- how many, the row, numbers read, stores read, calls within, stores, the lot, steps -/
abbrev eT : Type := Nat × eS × eB × eB × Nat × eS × Int32 × Nat
/-- end, answer, stores, the lot, steps, stores read, calls within, numbers read -/
abbrev eO : Type := Nat × Int32 × eS × Int32 × Nat × eB × Nat × eB
abbrev eE : Type := Nat → eS → eS → Int32 → Nat → eO
def eup {α : Type} (f : Nat → α) (i : Nat) (v : α) : Nat → α := fun j => if j = i then v else f j
theorem eup_self {α : Type} (f : Nat → α) (i : Nat) (v : α) : eup f i v i = v := if_pos rfl
theorem eup_ne {α : Type} (f : Nat → α) {i j : Nat} (v : α) (h : j ≠ i) : eup f i v j = f j := if_neg h
def eor (f g : eB) : eB := fun j => f j || g j
def e3 (x y z : Int32) : eS := fun j => if j = 0 then x else if j = 1 then y else z
def elot (L : Int32) : Int32 := (69069 : Int32) * L + (1 : Int32)
def edrw (L : Int32) : Int32 := (L.toUInt32 >>> ((16 : Int32).toUInt32 &&& Int32.toUInt32 31)).toInt32
def eop (c : Int) (x y : Int32) : Int32 := if c = 500 then x + y else if c = 501 then x - y else if c = 502 then x * y else if c = 503 then x / y else if c = 504 then (if x.toInt < y.toInt then 1 else 0) else (if x.toInt = y.toInt then 1 else 0)
/-- one code: how it ends (0: go on), how many are left out, what is then -/
def cst (fl : Bool) (N : Nat) (ent : Option eE) (a : eS) (c : Int) (sz : Nat) (rw : eS) (nr sr : eB) (wi : Nat) (S : eS) (L : Int32) (st : Nat) : Nat × Nat × eT :=
  if c < 100 then (if sz < 20 then (0, 0, sz + 1, eup rw sz (Int32.ofInt c), nr, sr, wi, S, L, st) else (2, 0, sz, rw, nr, sr, wi, S, L, st))
  else if c < 200 then (if sz < 20 then (0, 0, sz + 1, eup rw sz (a (c - 100).toNat), eup nr (c - 100).toNat true, sr, wi, S, L, st) else (2, 0, sz, rw, (if fl = true then eup nr (c - 100).toNat true else nr), sr, wi, S, L, st))
  else if c < 300 then (if sz < 20 then (0, 0, sz + 1, eup rw sz (S (c - 200).toNat), nr, eup sr (c - 200).toNat true, wi, S, L, st) else (2, 0, sz, rw, nr, (if fl = true then eup sr (c - 200).toNat true else sr), wi, S, L, st))
  else if c < 400 then (if sz < 1 then (1, 0, sz, rw, nr, sr, wi, S, L, st) else (0, 0, sz - 1, rw, nr, sr, wi, eup S (c - 300).toNat (rw (sz - 1)), L, st))
  else if c < 500 then (if sz < 3 then (1, 0, sz, rw, nr, sr, wi, S, L, st) else if N ≤ (c - 400).toNat then (4, 0, sz, rw, nr, sr, wi, S, L, st) else match ent with
    | none => (6, 0, sz, rw, nr, sr, wi, S, L, st)
    | some E => match E (c - 400).toNat (e3 (rw (sz - 3)) (rw (sz - 2)) (rw (sz - 1))) S L st with
      | (e, v, S', L', st', sr', wi', _) => (e, 0, sz - 2, eup rw (sz - 3) v, nr, eor sr sr', max wi (wi' + 1), S', L', st'))
  else if c < 506 then (if sz < 2 then (1, 0, sz, rw, nr, sr, wi, S, L, st) else if c = 503 ∧ (rw (sz - 1)).toInt = 0 then (3, 0, sz, rw, nr, sr, wi, S, L, st) else (0, 0, sz - 1, eup rw (sz - 2) (eop c (rw (sz - 2)) (rw (sz - 1))), nr, sr, wi, S, L, st))
  else if c < 507 then (if sz < 1 then (1, 0, sz, rw, nr, sr, wi, S, L, st) else (0, 0, sz - 1, rw, nr, sr, wi, S, L, st))
  else if c < 508 then (if sz < 1 then (1, 0, sz, rw, nr, sr, wi, S, L, st) else if sz < 20 then (0, 0, sz + 1, eup rw sz (rw (sz - 1)), nr, sr, wi, S, L, st) else (2, 0, sz, rw, nr, sr, wi, S, L, st))
  else if c < 600 then (if sz < 20 then (0, 0, sz + 1, eup rw sz (edrw (elot L)), nr, sr, wi, S, elot L, st) else (2, 0, sz, rw, nr, sr, wi, S, L, st))
  else (if sz < 1 then (1, 0, sz, rw, nr, sr, wi, S, L, st) else (0, (if (rw (sz - 1)).toInt = 0 then (c - 600).toNat else 0), sz - 1, rw, nr, sr, wi, S, L, st))
def wlk (fl : Bool) (N : Nat) (ent : Option eE) (a : eS) (ln : Nat) (cd : Nat → Int) : Nat → Nat → eT → Nat × Int32 × eT
  | 0, _, t => (7, 0, t)
  | f + 1, p, (sz, rw, nr, sr, wi, S, L, st) => if ln ≤ p then (0, (if sz = 0 then 0 else rw (sz - 1)), sz, rw, nr, sr, wi, S, L, st) else if 2000 ≤ st then (5, 0, sz, rw, nr, sr, wi, S, L, st) else match cst fl N ent a (cd p) sz rw nr sr wi S L (st + 1) with
    | (e, k, t) => if e = 0 then wlk fl N ent a ln cd f (p + 1 + k) t else (e, 0, t)
def eNo : eB := fun _ => false
def e0 : eS := fun _ => 0
def EVp (fl : Bool) (N : Nat) (ln : Nat → Nat) (cd : Nat → Nat → Int) (ent : Option eE) : eE := fun r a S L st => match wlk fl N ent a (ln r) (cd r) 41 0 (0, e0, eNo, eNo, 0, S, L, st) with
  | (e, v, _, _, nr, sr, wi, S', L', st') => (e, v, S', L', st', sr, wi, nr)
def EV (fl : Bool) (N : Nat) (ln : Nat → Nat) (cd : Nat → Nat → Int) : Nat → eE
  | 0 => EVp fl N ln cd none
  | k + 1 => EVp fl N ln cd (some (EV fl N ln cd k))
def EVe (fl : Bool) (N : Nat) (ln : Nat → Nat) (cd : Nat → Nat → Int) (k : Nat) : Option eE := match k with
  | 0 => none
  | k + 1 => some (EV fl N ln cd k)
theorem EV_e (fl : Bool) (N : Nat) (ln : Nat → Nat) (cd : Nat → Nat → Int) (k : Nat) : EV fl N ln cd k = EVp fl N ln cd (EVe fl N ln cd k) := by cases k <;> rfl
/-! what was not read doesn't matter -/
def eag {α : Type} (b : eB) (f g : Nat → α) : Prop := ∀ i, b i = true → g i = f i
def emo (b b' : eB) : Prop := ∀ i, b i = true → b' i = true
theorem emo_up (b : eB) (i : Nat) : emo b (eup b i true) := fun j hj => by
  unfold eup
  split
  · rfl
  · exact hj
theorem emo_or (b c : eB) : emo b (eor b c) := fun j hj => by
  unfold eor
  rw [hj]
  rfl
theorem emo_if (fl : Bool) (b : eB) (i : Nat) : emo b (if fl = true then eup b i true else b) := by
  split
  · exact emo_up b i
  · exact fun _ z => z
/-- how two callers of calls answer alike -/
def entR (P : Nat → Prop) (ent ent2 : Option eE) (k2 : Nat) : Prop := ∀ E, ent = some E → ∀ y, P y → ∀ (a S : eS) (L : Int32) (st : Nat) (e : Nat) (v : Int32) (S' : eS) (L' : Int32) (st' : Nat) (sr : eB) (wi : Nat) (nr : eB), E y a S L st = (e, v, S', L', st', sr, wi, nr) → e ≠ 5 → e ≠ 6 → (S' = S ∧ L' = L ∧ st ≤ st') ∧ ∀ (S2 : eS) (L2 : Int32) (st2 : Nat), eag sr S S2 → wi + 1 ≤ k2 → st2 + (st' - st) ≤ 2000 → ∃ E2, ent2 = some E2 ∧ E2 y a S2 L2 st2 = (e, v, S2, L2, st2 + (st' - st), sr, wi, nr)
def eok (P : Nat → Prop) (N : Nat) (c : Int) : Prop := (c < 300 ∨ 400 ≤ c) ∧ c ≠ 508 ∧ c ≤ 620 ∧ (509 ≤ c → 600 ≤ c) ∧ (400 ≤ c → c < 500 → ¬ N ≤ (c - 400).toNat → P (c - 400).toNat)
section RKEV
variable {fl : Bool} {N : Nat} {P : Nat → Prop} {ent ent2 : Option eE} {k2 : Nat} {a a2 : eS}
theorem fr_cst (hE : entR P ent ent2 k2) {c : Int} (hc : eok P N c) {sz : Nat} {rw : eS} {nr sr : eB} {wi : Nat} {S : eS} {L : Int32} {st e k sz' : Nat} {rw' : eS} {nr' sr' : eB} {wi' : Nat} {S' : eS} {L' : Int32} {st' : Nat} (h : cst fl N ent a c sz rw nr sr wi S L st = (e, k, sz', rw', nr', sr', wi', S', L', st')) (h5 : e ≠ 5) (h6 : e ≠ 6) : (S' = S ∧ L' = L ∧ st ≤ st' ∧ wi ≤ wi' ∧ emo nr nr' ∧ emo sr sr') ∧ ∀ (S2 : eS) (L2 : Int32) (st2 : Nat), eag nr' a a2 → eag sr' S S2 → wi' ≤ k2 → st2 + (st' - st) ≤ 2000 → cst fl N ent2 a2 c sz rw nr sr wi S2 L2 st2 = (e, k, sz', rw', nr', sr', wi', S2, L2, st2 + (st' - st)) := by
  obtain ⟨c1, c2, c3, c4, c5⟩ := hc
  have rfl6 : ∀ {S : eS} {L : Int32} {st wi : Nat} {nr sr : eB}, (S = S ∧ L = L ∧ st ≤ st ∧ wi ≤ wi ∧ emo nr nr ∧ emo sr sr) := ⟨rfl, rfl, Nat.le_refl _, Nat.le_refl _, fun _ z => z, fun _ z => z⟩
  unfold cst at h ⊢
  by_cases h1 : c < 100
  · rw [if_pos h1] at h
    by_cases h2 : sz < 20
    · rw [if_pos h2] at h
      cases h
      exact ⟨rfl6, fun S2 L2 st2 _ _ _ _ => by rw [if_pos h1, if_pos h2, show st2 + (st - st) = st2 by omega]⟩
    · rw [if_neg h2] at h
      cases h
      exact ⟨rfl6, fun S2 L2 st2 _ _ _ _ => by rw [if_pos h1, if_neg h2, show st2 + (st - st) = st2 by omega]⟩
  rw [if_neg h1] at h
  by_cases h3 : c < 200
  · rw [if_pos h3] at h
    by_cases h2 : sz < 20
    · rw [if_pos h2] at h
      cases h
      refine ⟨⟨rfl, rfl, Nat.le_refl _, Nat.le_refl _, emo_up _ _, fun _ z => z⟩, fun S2 L2 st2 ha _ _ _ => ?_⟩
      rw [if_neg h1, if_pos h3, if_pos h2, show st2 + (st - st) = st2 by omega, ha _ (eup_self _ _ _)]
    · rw [if_neg h2] at h
      cases h
      exact ⟨⟨rfl, rfl, Nat.le_refl _, Nat.le_refl _, emo_if _ _ _, fun _ z => z⟩, fun S2 L2 st2 _ _ _ _ => by rw [if_neg h1, if_pos h3, if_neg h2, show st2 + (st - st) = st2 by omega]⟩
  rw [if_neg h3] at h
  by_cases h4 : c < 300
  · rw [if_pos h4] at h
    by_cases h2 : sz < 20
    · rw [if_pos h2] at h
      cases h
      refine ⟨⟨rfl, rfl, Nat.le_refl _, Nat.le_refl _, fun _ z => z, emo_up _ _⟩, fun S2 L2 st2 _ ha _ _ => ?_⟩
      rw [if_neg h1, if_neg h3, if_pos h4, if_pos h2, show st2 + (st - st) = st2 by omega, ha _ (eup_self _ _ _)]
    · rw [if_neg h2] at h
      cases h
      exact ⟨⟨rfl, rfl, Nat.le_refl _, Nat.le_refl _, fun _ z => z, emo_if _ _ _⟩, fun S2 L2 st2 _ _ _ _ => by rw [if_neg h1, if_neg h3, if_pos h4, if_neg h2, show st2 + (st - st) = st2 by omega]⟩
  have h5' : ¬ c < 400 := by omega
  rw [if_neg h4, if_neg h5'] at h
  by_cases h6' : c < 500
  · rw [if_pos h6'] at h
    by_cases h7 : sz < 3
    · rw [if_pos h7] at h
      cases h
      exact ⟨rfl6, fun S2 L2 st2 _ _ _ _ => by rw [if_neg h1, if_neg h3, if_neg h4, if_neg h5', if_pos h6', if_pos h7, show st2 + (st - st) = st2 by omega]⟩
    rw [if_neg h7] at h
    by_cases h8 : N ≤ (c - 400).toNat
    · rw [if_pos h8] at h
      cases h
      exact ⟨rfl6, fun S2 L2 st2 _ _ _ _ => by rw [if_neg h1, if_neg h3, if_neg h4, if_neg h5', if_pos h6', if_neg h7, if_pos h8, show st2 + (st - st) = st2 by omega]⟩
    rw [if_neg h8] at h
    cases hent : ent with
    | none =>
      rw [hent] at h
      cases h
      exact absurd rfl h6
    | some E =>
      rw [hent] at h
      dsimp only at h
      cases ho : E (c - 400).toNat (e3 (rw (sz - 3)) (rw (sz - 2)) (rw (sz - 1))) S L st with
      | mk e1 q =>
        obtain ⟨v, S1, L1, st1, sr1, wi1, nr1⟩ := q
        rw [ho] at h
        cases h
        obtain ⟨⟨g1, g2, g3⟩, g4⟩ := hE E hent _ (c5 (by omega) h6' h8) _ _ _ _ _ _ _ _ _ _ _ _ ho h5 h6
        refine ⟨⟨g1, g2, g3, Nat.le_max_left _ _, fun _ z => z, emo_or _ _⟩, fun S2 L2 st2 _ ha hk hst => ?_⟩
        dsimp only at ha hk hst
        obtain ⟨E2, q1, q2⟩ := g4 S2 L2 st2 (fun i hi => ha i (by unfold eor; rw [hi, Bool.or_true])) (Nat.le_trans (Nat.le_max_right _ _) hk) hst
        rw [if_neg h1, if_neg h3, if_neg h4, if_neg h5', if_pos h6', if_neg h7, if_neg h8, q1]
        dsimp only
        rw [q2]
  rw [if_neg h6'] at h
  by_cases h9 : c < 506
  · rw [if_pos h9] at h
    by_cases h7 : sz < 2
    · rw [if_pos h7] at h
      cases h
      exact ⟨rfl6, fun S2 L2 st2 _ _ _ _ => by rw [if_neg h1, if_neg h3, if_neg h4, if_neg h5', if_neg h6', if_pos h9, if_pos h7, show st2 + (st - st) = st2 by omega]⟩
    rw [if_neg h7] at h
    by_cases h8 : c = 503 ∧ (rw (sz - 1)).toInt = 0
    · rw [if_pos h8] at h
      cases h
      exact ⟨rfl6, fun S2 L2 st2 _ _ _ _ => by rw [if_neg h1, if_neg h3, if_neg h4, if_neg h5', if_neg h6', if_pos h9, if_neg h7, if_pos h8, show st2 + (st - st) = st2 by omega]⟩
    · rw [if_neg h8] at h
      cases h
      exact ⟨rfl6, fun S2 L2 st2 _ _ _ _ => by rw [if_neg h1, if_neg h3, if_neg h4, if_neg h5', if_neg h6', if_pos h9, if_neg h7, if_neg h8, show st2 + (st - st) = st2 by omega]⟩
  rw [if_neg h9] at h
  by_cases h10 : c < 507
  · rw [if_pos h10] at h
    by_cases h7 : sz < 1
    · rw [if_pos h7] at h
      cases h
      exact ⟨rfl6, fun S2 L2 st2 _ _ _ _ => by rw [if_neg h1, if_neg h3, if_neg h4, if_neg h5', if_neg h6', if_neg h9, if_pos h10, if_pos h7, show st2 + (st - st) = st2 by omega]⟩
    · rw [if_neg h7] at h
      cases h
      exact ⟨rfl6, fun S2 L2 st2 _ _ _ _ => by rw [if_neg h1, if_neg h3, if_neg h4, if_neg h5', if_neg h6', if_neg h9, if_pos h10, if_neg h7, show st2 + (st - st) = st2 by omega]⟩
  rw [if_neg h10] at h
  by_cases h11 : c < 508
  · rw [if_pos h11] at h
    by_cases h7 : sz < 1
    · rw [if_pos h7] at h
      cases h
      exact ⟨rfl6, fun S2 L2 st2 _ _ _ _ => by rw [if_neg h1, if_neg h3, if_neg h4, if_neg h5', if_neg h6', if_neg h9, if_neg h10, if_pos h11, if_pos h7, show st2 + (st - st) = st2 by omega]⟩
    rw [if_neg h7] at h
    by_cases h2 : sz < 20
    · rw [if_pos h2] at h
      cases h
      exact ⟨rfl6, fun S2 L2 st2 _ _ _ _ => by rw [if_neg h1, if_neg h3, if_neg h4, if_neg h5', if_neg h6', if_neg h9, if_neg h10, if_pos h11, if_neg h7, if_pos h2, show st2 + (st - st) = st2 by omega]⟩
    · rw [if_neg h2] at h
      cases h
      exact ⟨rfl6, fun S2 L2 st2 _ _ _ _ => by rw [if_neg h1, if_neg h3, if_neg h4, if_neg h5', if_neg h6', if_neg h9, if_neg h10, if_pos h11, if_neg h7, if_neg h2, show st2 + (st - st) = st2 by omega]⟩
  have h12 : ¬ c < 600 := by omega
  rw [if_neg h11, if_neg h12] at h
  by_cases h7 : sz < 1
  · rw [if_pos h7] at h
    cases h
    exact ⟨rfl6, fun S2 L2 st2 _ _ _ _ => by rw [if_neg h1, if_neg h3, if_neg h4, if_neg h5', if_neg h6', if_neg h9, if_neg h10, if_neg h11, if_neg h12, if_pos h7, show st2 + (st - st) = st2 by omega]⟩
  · rw [if_neg h7] at h
    cases h
    exact ⟨rfl6, fun S2 L2 st2 _ _ _ _ => by rw [if_neg h1, if_neg h3, if_neg h4, if_neg h5', if_neg h6', if_neg h9, if_neg h10, if_neg h11, if_neg h12, if_neg h7, show st2 + (st - st) = st2 by omega]⟩
theorem fr_wlk (hE : entR P ent ent2 k2) {ln : Nat} {cd : Nat → Int} (hcd : ∀ i, i < ln → eok P N (cd i)) : ∀ (f p sz : Nat) (rw : eS) (nr sr : eB) (wi : Nat) (S : eS) (L : Int32) (st e : Nat) (v : Int32) (sz' : Nat) (rw' : eS) (nr' sr' : eB) (wi' : Nat) (S' : eS) (L' : Int32) (st' : Nat), wlk fl N ent a ln cd f p (sz, rw, nr, sr, wi, S, L, st) = (e, v, sz', rw', nr', sr', wi', S', L', st') → e ≠ 5 → e ≠ 6 → (S' = S ∧ L' = L ∧ st ≤ st' ∧ wi ≤ wi' ∧ emo nr nr' ∧ emo sr sr') ∧ ∀ (S2 : eS) (L2 : Int32) (st2 : Nat), eag nr' a a2 → eag sr' S S2 → wi' ≤ k2 → st2 + (st' - st) ≤ 2000 → wlk fl N ent2 a2 ln cd f p (sz, rw, nr, sr, wi, S2, L2, st2) = (e, v, sz', rw', nr', sr', wi', S2, L2, st2 + (st' - st)) := by
  intro f
  induction f with
  | zero =>
    intro p sz rw nr sr wi S L st e v sz' rw' nr' sr' wi' S' L' st' h h5 h6
    cases h
    exact ⟨⟨rfl, rfl, Nat.le_refl _, Nat.le_refl _, fun _ z => z, fun _ z => z⟩, fun S2 L2 st2 _ _ _ _ => by rw [wlk, Nat.sub_self, Nat.add_zero]⟩
  | succ f ih =>
    intro p sz rw nr sr wi S L st e v sz' rw' nr' sr' wi' S' L' st' h h5 h6
    rw [wlk] at h
    by_cases h1 : ln ≤ p
    · rw [if_pos h1] at h
      cases h
      exact ⟨⟨rfl, rfl, Nat.le_refl _, Nat.le_refl _, fun _ z => z, fun _ z => z⟩, fun S2 L2 st2 _ _ _ _ => by rw [wlk, if_pos h1, Nat.sub_self, Nat.add_zero]⟩
    rw [if_neg h1] at h
    by_cases h2 : 2000 ≤ st
    · rw [if_pos h2] at h
      cases h
      exact absurd rfl h5
    rw [if_neg h2] at h
    cases hq : cst fl N ent a (cd p) sz rw nr sr wi S L (st + 1) with
    | mk e1 q =>
      obtain ⟨k, sz1, rw1, nr1, sr1, wi1, S1, L1, st1⟩ := q
      rw [hq] at h
      dsimp only at h
      by_cases h0 : e1 = 0
      · rw [if_pos h0] at h
        obtain ⟨⟨g1, g2, g3, g4, g5, g6⟩, g7⟩ := fr_cst (a2 := a2) hE (hcd p (by omega)) hq (by omega) (by omega)
        obtain ⟨⟨i1, i2, i3, i4, i5, i6⟩, i7⟩ := ih _ _ _ _ _ _ _ _ _ _ _ _ _ _ _ _ _ _ _ h h5 h6
        subst g1 g2
        refine ⟨⟨i1, i2, by omega, by omega, fun i z => i5 i (g5 i z), fun i z => i6 i (g6 i z)⟩, fun S2 L2 st2 ha hs hk hst => ?_⟩
        have e2 := g7 S2 L2 (st2 + 1) (fun i z => ha i (i5 i z)) (fun i z => hs i (i6 i z)) (by omega) (by omega)
        rw [wlk, if_neg h1, if_neg (show ¬ 2000 ≤ st2 by omega), e2]
        dsimp only
        rw [if_pos h0, i7 S2 L2 _ ha hs hk (by omega), show st2 + 1 + (st1 - (st + 1)) + (st' - st1) = st2 + (st' - st) by omega]
      · rw [if_neg h0] at h
        cases h
        obtain ⟨⟨g1, g2, g3, g4, g5, g6⟩, g7⟩ := fr_cst (a2 := a2) hE (hcd p (by omega)) hq h5 h6
        refine ⟨⟨g1, g2, by omega, g4, g5, g6⟩, fun S2 L2 st2 ha hs hk hst => ?_⟩
        have e2 := g7 S2 L2 (st2 + 1) ha hs hk (by omega)
        rw [wlk, if_neg h1, if_neg (show ¬ 2000 ≤ st2 by omega), e2]
        dsimp only
        rw [if_neg h0, show st2 + 1 + (st' - (st + 1)) = st2 + (st' - st) by omega]
end RKEV
/-- A CALL of one that neither acts nor draws: what it reads says all -/
theorem fr_EV {fl : Bool} {N : Nat} {ln : Nat → Nat} {cd : Nat → Nat → Int} {P : Nat → Prop} (hP : ∀ r, P r → ∀ i, i < ln r → eok P N (cd r i)) : ∀ (k k2 r : Nat), P r → ∀ (a a2 S : eS) (L : Int32) (st e : Nat) (v : Int32) (S' : eS) (L' : Int32) (st' : Nat) (sr : eB) (wi : Nat) (nr : eB), EV fl N ln cd k r a S L st = (e, v, S', L', st', sr, wi, nr) → e ≠ 5 → e ≠ 6 → (S' = S ∧ L' = L ∧ st ≤ st') ∧ ∀ (S2 : eS) (L2 : Int32) (st2 : Nat), eag nr a a2 → eag sr S S2 → wi ≤ k2 → st2 + (st' - st) ≤ 2000 → EV fl N ln cd k2 r a2 S2 L2 st2 = (e, v, S2, L2, st2 + (st' - st), sr, wi, nr) := by
  intro k
  induction k using Nat.strongRecOn with
  | ind k ih =>
    intro k2 r hr a a2 S L st e v S' L' st' sr wi nr h h5 h6
    rw [EV_e] at h
    unfold EVp at h
    have hE : entR P (EVe fl N ln cd k) (EVe fl N ln cd k2) k2 := by
      intro E hE y hy a S L st e v S' L' st' sr wi nr ho h5 h6
      cases k with
      | zero => cases hE
      | succ k =>
        cases hE
        have q := ih k (by omega) (k2 - 1) y hy a a S L st e v S' L' st' sr wi nr ho h5 h6
        refine ⟨q.1, fun S2 L2 st2 hs hk hst => ?_⟩
        cases k2 with
        | zero => omega
        | succ k2 => exact ⟨_, rfl, q.2 S2 L2 st2 (fun _ _ => rfl) hs (by omega) hst⟩
    cases hw : wlk fl N (EVe fl N ln cd k) a (ln r) (cd r) 41 0 (0, e0, eNo, eNo, 0, S, L, st) with
    | mk e1 q =>
      obtain ⟨v1, sz1, rw1, nr1, sr1, wi1, S1, L1, st1⟩ := q
      rw [hw] at h
      cases h
      obtain ⟨⟨g1, g2, g3, -, -, -⟩, g7⟩ := fr_wlk (a2 := a2) hE (hP r hr) 41 0 0 e0 eNo eNo 0 S L st _ _ _ _ _ _ _ _ _ _ hw h5 h6
      refine ⟨⟨g1, g2, g3⟩, fun S2 L2 st2 ha hs hk hst => ?_⟩
      rw [EV_e]
      unfold EVp
      rw [g7 S2 L2 st2 ha hs hk hst]
