/-! the shelf: what is kept is right -/
def isKs (c : Nat) : Prop := ∃ q, q < 32 ∧ c = 22 + 3 * q
theorem isKs_r {c : Nat} (h : isKs c) : 22 ≤ c ∧ c ≤ 115 := by
  obtain ⟨q, h1, rfl⟩ := h
  omega
theorem isKs_ne {c c' : Nat} (h : isKs c) (h' : isKs c') : c = c' ∨ c + 3 ≤ c' ∨ c' + 3 ≤ c := by
  obtain ⟨q, h1, rfl⟩ := h
  obtain ⟨q', h1', rfl⟩ := h'
  omega
set_option maxRecDepth 100000 in
theorem yln_k32 : ∀ q : Fin 32, yln (22 + 3 * q.val) = 11 ∧ yln (22 + 3 * q.val + 1) = 3 ∧ yln (22 + 3 * q.val + 2) = 16 := by decide +kernel
theorem yln_ks {c : Nat} (h : isKs c) : yln c = 11 ∧ yln (c + 1) = 3 ∧ yln (c + 2) = 16 := by
  obtain ⟨q, h1, rfl⟩ := h
  exact yln_k32 ⟨q, h1⟩
set_option maxRecDepth 100000 in
theorem yln_sh : yln 20 = 5 ∧ yln 21 = 32 ∧ yln 118 = 12 := ⟨rfl, rfl, rfl⟩
theorem bt_shr0 {x j : Int32} (h0 : 0 ≤ j.toInt) (h1 : j.toInt < 32) (hz : (x >>> (j &&& 31)).toInt = 0) {s : Nat} (hs : j.toInt ≤ s) : bt x s = false := by
  by_cases h32 : s < 32
  · have e : (x >>> (j &&& 31)) = 0 := Int32.toInt_inj.mp hz
    have e2 : bt (x >>> (j &&& 31)) (s - j.toInt.toNat) = false := by rw [e, bt_zero]
    unfold bt at e2 ⊢
    rw [Int32.toBitVec_shiftRight, BitVec.sshiftRight_eq', y_sm h0 h1, BitVec.getLsbD_sshiftRight, if_pos (by omega), show j.toInt.toNat + (s - j.toInt.toNat) = s by omega, decide_eq_false (by omega)] at e2
    simpa using e2
  · exact bt_big (by omega)
def holdsF (h : rk_S) (k : Nat) (r : Int) (f : Nat) : Prop := (gi h k 2).toInt = r ∧ (∀ i, i < 3 → bt (gi h k 3) i = true → gi h (k + 1) i = gi h (f + 1) i) ∧ ∀ s, s < 16 → bt (gi h k 4) s = true → gi h (k + 2) s = gi h 19 s
theorem na_loop {h : rk_S} {k f : Nat} (hG : yG h) : ∀ (n d : Nat) (o : Option Value × rk_S) (j : Int32) (jn : Nat), j.toInt = jn → jn ≤ 3 → (∀ i, i < jn → bt (gi h k 3) i = true → gi h (k + 1) i = gi h (f + 1) i) → rk_ex n d rm_X1_numbersAreAlike 2 [(0, .ref k), (1, .ref f), (2, .int j)] [] h = some o → ∃ y, o = (some (.int y), h) ∧ (¬ y.toInt = 0 → ∀ i, i < 3 → bt (gi h k 3) i = true → gi h (k + 1) i = gi h (f + 1) i) := by
  intro n
  induction n using Nat.strongRecOn with
  | ind n ih =>
    intro d o j jn hj hjn hp E
    have ej := y_ix hj
    have hj1 := y_inc hj (by omega)
    have A := ys_na hG (by omega) E
    rw [ej] at A
    rcases A with ⟨c1, -, rfl⟩ | ⟨c1, c2, m, hm, -, E'⟩ | ⟨c1, c2, c3, m, hm, -, E'⟩ | ⟨c1, c2, c3, -, rfl⟩
    · exact ⟨_, rfl, fun _ i hi hb => hp i (by omega) hb⟩
    · refine ih m hm d o (j + 1) (jn + 1) hj1 (by omega) (fun i hi hb => ?_) E'
      by_cases e : i = jn
      · subst e
        have := (y_bit (by omega) (by omega)).mp c2
        rw [show j.toInt.toNat = i by omega, hb] at this
        cases this
      · exact hp i (by omega) hb
    · refine ih m hm d o (j + 1) (jn + 1) hj1 (by omega) (fun i hi hb => ?_) E'
      by_cases e : i = jn
      · subst e
        exact Int32.toInt_inj.mp c3
      · exact hp i (by omega) hb
    · exact ⟨_, rfl, fun z => absurd rfl z⟩
theorem sa_loop {h : rk_S} {k : Nat} (hG : yG h) : ∀ (n d : Nat) (o : Option Value × rk_S) (j : Int32) (jn : Nat), j.toInt = jn → jn ≤ 16 → (∀ i, i < jn → bt (gi h k 4) i = true → gi h (k + 2) i = gi h 19 i) → rk_ex n d rm_X1_storesAreAlike 2 [(0, .ref k), (1, .ref 18), (2, .int j)] [] h = some o → ∃ y, o = (some (.int y), h) ∧ (¬ y.toInt = 0 → ∀ i, i < 16 → bt (gi h k 4) i = true → gi h (k + 2) i = gi h 19 i) := by
  intro n
  induction n using Nat.strongRecOn with
  | ind n ih =>
    intro d o j jn hj hjn hp E
    have ej := y_ix hj
    have hj1 := y_inc hj (by omega)
    have A := ys_sa hG (by omega) E
    rw [ej] at A
    rcases A with ⟨c1, -, rfl⟩ | ⟨c1, c2, -, rfl⟩ | ⟨c1, -, c2, m, hm, -, E'⟩ | ⟨c1, -, c2, c3, m, hm, -, E'⟩ | ⟨c1, -, c2, c3, -, rfl⟩
    · exact ⟨_, rfl, fun _ i hi hb => hp i (by omega) hb⟩
    · refine ⟨_, rfl, fun _ i hi hb => ?_⟩
      by_cases e : i < jn
      · exact hp i e hb
      · rw [bt_shr0 (by omega) (by omega) c2 (by omega)] at hb
        cases hb
    · refine ih m hm d o (j + 1) (jn + 1) hj1 (by omega) (fun i hi hb => ?_) E'
      by_cases e : i = jn
      · subst e
        have := (y_bit (by omega) (by omega)).mp c2
        rw [show j.toInt.toNat = i by omega, hb] at this
        cases this
      · exact hp i (by omega) hb
    · refine ih m hm d o (j + 1) (jn + 1) hj1 (by omega) (fun i hi hb => ?_) E'
      by_cases e : i = jn
      · subst e
        exact Int32.toInt_inj.mp c3
      · exact hp i (by omega) hb
    · exact ⟨_, rfl, fun z => absurd rfl z⟩
theorem hf_ok {n d : Nat} {h : rk_S} {o : Option Value × rk_S} {k f : Nat} {r : Int32} (hG : yG h) (E : rk_ex n d rm_X1_holdsFor 0 [(0, .ref k), (1, .int r), (2, .ref f), (3, .ref 18)] [] h = some o) : ∃ y, o = (some (.int y), h) ∧ (¬ y.toInt = 0 → holdsF h k r.toInt f) := by
  rcases ys_hf hG E with ⟨c1, -, rfl⟩ | ⟨c1, m, hm, -, E1⟩
  · exact ⟨_, rfl, fun z => absurd rfl z⟩
  obtain ⟨m1, d1, o1, hm1, E2, E3⟩ := E_call (ar := ([.ref k, .ref f], [])) rfl rfl rfl rfl rfl rfl E1
  obtain ⟨m2, hm2, -, E4⟩ := ys_na0 (k := k) (f := f) hG E2
  obtain ⟨y, rfl, hy⟩ := na_loop hG m2 d1 o1 0 0 rfl (by omega) (fun i hi => by omega) E4
  rcases ys_hf1 hG E3 with ⟨c2, -, rfl⟩ | ⟨c2, m3, hm3, -, E5⟩
  · exact ⟨_, rfl, fun z => absurd rfl z⟩
  obtain ⟨m4, d4, o4, hm4, E6, E7⟩ := E_call (ar := ([.ref k, .ref 18], [])) rfl rfl rfl rfl rfl rfl E5
  obtain ⟨m5, hm5, -, E8⟩ := ys_sa0 (k := k) hG E6
  obtain ⟨y2, rfl, hy2⟩ := sa_loop hG m5 d4 o4 0 0 rfl (by omega) (fun i hi => by omega) E8
  rcases ys_hf2 hG E7 with ⟨c3, -, rfl⟩ | ⟨c3, -, rfl⟩
  · exact ⟨_, rfl, fun z => absurd rfl z⟩
  · exact ⟨_, rfl, fun _ => ⟨c1, hy c2, hy2 c3⟩⟩
theorem ft_loop {h : rk_S} {f : Nat} {r : Int32} (hG : yG h) (hc : (gi h 20 1).toInt ≤ 32) : ∀ (n d : Nat) (o : Option Value × rk_S) (j : Int32) (jn : Nat), j.toInt = jn → jn ≤ 32 → rk_ex n d rm_X5_firstThatHolds 3 [(0, .ref 20), (1, .int r), (2, .ref f), (3, .ref 18), (4, .int j)] [] h = some o → ∃ y, o = (some (.int y), h) ∧ (0 ≤ y.toInt → y.toInt < (gi h 20 1).toInt → holdsF h (gr h 21 y.toInt.toNat) r.toInt f) := by
  intro n
  induction n using Nat.strongRecOn with
  | ind n ih =>
    intro d o j jn hj hjn E
    have ej := y_ix hj
    have hj1 := y_inc hj (by omega)
    have A := ys_ft hG E
    rw [ej] at A
    rcases A with ⟨c1, -, rfl⟩ | ⟨c1, m, hm, -, E1⟩
    · exact ⟨_, rfl, fun z => absurd z (by decide)⟩
    obtain ⟨m1, d1, o1, hm1, E2, E3⟩ := E_call (ar := ([.ref (gr h 21 jn), .int r, .ref f, .ref 18], [])) rfl rfl rfl rfl rfl rfl E1
    obtain ⟨y, rfl, hy⟩ := hf_ok (k := gr h 21 jn) (f := f) (r := r) hG E2
    rcases ys_ft1 hG E3 with ⟨c2, m2, hm2, -, E4⟩ | ⟨c2, -, rfl⟩
    · exact ih m2 (by omega) d o (j + 1) (jn + 1) hj1 (by omega) E4
    · exact ⟨_, rfl, fun _ _ => by rw [show j.toInt.toNat = jn by omega]; exact hy c2⟩
theorem ft_ok {n d : Nat} {h : rk_S} {o : Option Value × rk_S} {f : Nat} {r : Int32} (hG : yG h) (hc : (gi h 20 1).toInt ≤ 32) (E : rk_ex n d rm_X5_firstThatHolds 0 [(0, .ref 20), (1, .int r), (2, .ref f), (3, .ref 18)] [] h = some o) : ∃ y, o = (some (.int y), h) ∧ (0 ≤ y.toInt → y.toInt < (gi h 20 1).toInt → holdsF h (gr h 21 y.toInt.toNat) r.toInt f) := by
  obtain ⟨m, hm, -, E1⟩ := ys_ft0 hG E
  exact ft_loop hG hc m d o 0 0 rfl (by omega) E1
/-! what is kept of a call is what it would come to -/
def KV (N : Nat) (ln : Nat → Nat) (cd : Nat → Nat → Int) (h : rk_S) (c : Nat) : Prop := ∃ (r e wi ks : Nat) (v : Int32) (nr sr : eB), (gi h c 2).toInt = r ∧ (∀ b, bt (gi h c 3) b = nr b) ∧ (∀ b, bt (gi h c 4) b = sr b) ∧ gi h c 5 = v ∧ (gi h c 6).toInt = e ∧ (gi h c 7).toInt = ks ∧ ks ≤ 2000 ∧ (gi h c 8).toInt = wi ∧ wi ≤ 12 ∧ (∀ b, nr b = true → b < 3) ∧ (∀ b, sr b = true → b < 16) ∧ ∀ (a S : eS) (L : Int32) (k st : Nat), (∀ i, nr i = true → a i = gi h (c + 1) i) → (∀ s, sr s = true → S s = gi h (c + 2) s) → wi ≤ k → st + ks ≤ 2000 → EV false N ln cd k r a S L st = (e, v, S, L, st + ks, sr, wi, nr)
theorem KV_eq {N : Nat} {ln : Nat → Nat} {cd : Nat → Nat → Int} {h h' : rk_S} {c : Nat} (he : ∀ b k, (b = c ∧ k ≤ 8) ∨ b = c + 1 ∨ b = c + 2 → rk_get h' b k = rk_get h b k) (hK : KV N ln cd h c) : KV N ln cd h' c := by
  obtain ⟨r, e, wi, ks, v, nr, sr, k1, k2, k3, k4, k5, k6, k7, k8, k9, k10, k11, k12⟩ := hK
  refine ⟨r, e, wi, ks, v, nr, sr, ?_, fun b => ?_, fun b => ?_, ?_, ?_, ?_, k7, ?_, k9, k10, k11, fun a S L k st h1 h2 h3 h4 => k12 a S L k st (fun i hi => ?_) (fun s hs => ?_) h3 h4⟩
  · rw [gi_eq (he c 2 (by omega))]; exact k1
  · rw [gi_eq (he c 3 (by omega))]; exact k2 b
  · rw [gi_eq (he c 4 (by omega))]; exact k3 b
  · rw [gi_eq (he c 5 (by omega))]; exact k4
  · rw [gi_eq (he c 6 (by omega))]; exact k5
  · rw [gi_eq (he c 7 (by omega))]; exact k6
  · rw [gi_eq (he c 8 (by omega))]; exact k8
  · rw [h1 i hi, gi_eq (he (c + 1) i (by omega))]
  · rw [h2 s hs, gi_eq (he (c + 2) s (by omega))]
def SV (N : Nat) (ln : Nat → Nat) (cd : Nat → Nat → Int) (h : rk_S) : Prop := (∃ cn : Nat, (gi h 20 1).toInt = cn ∧ cn ≤ 32 ∧ ∀ i, i < cn → KV N ln cd h (gr h 21 i)) ∧ (∀ i, i < 32 → isKs (gr h 21 i)) ∧ ∀ i j, i < 32 → j < 32 → gr h 21 i = gr h 21 j → i = j
theorem SV_eq {N : Nat} {ln : Nat → Nat} {cd : Nat → Nat → Int} {h h' : rk_S} (he : ∀ b k, (b = 20 ∧ k = 1) ∨ b = 21 ∨ (22 ≤ b ∧ b ≤ 117 ∧ (k ≤ 8 ∨ ¬ isKs b)) → rk_get h' b k = rk_get h b k) (hS : SV N ln cd h) : SV N ln cd h' := by
  obtain ⟨⟨cn, s1, s2, s3⟩, s4, s5⟩ := hS
  have e21 : ∀ i, gr h' 21 i = gr h 21 i := fun i => gr_eq (he 21 i (by omega))
  refine ⟨⟨cn, by rw [gi_eq (he 20 1 (by omega))]; exact s1, s2, fun i hi => ?_⟩, fun i hi => by rw [e21]; exact s4 i hi, fun i j hi hj e => s5 i j hi hj (by rw [e21, e21] at e; exact e)⟩
  rw [e21]
  have hk := s4 i (by omega)
  have hr := isKs_r hk
  refine KV_eq (fun b k hb => he b k ?_) (s3 i hi)
  rcases hb with ⟨rfl, hb⟩ | rfl | rfl
  · exact Or.inr (Or.inr ⟨by omega, by omega, Or.inl hb⟩)
  · refine Or.inr (Or.inr ⟨by omega, by omega, Or.inr (fun z => ?_)⟩)
    have := isKs_ne hk z
    omega
  · refine Or.inr (Or.inr ⟨by omega, by omega, Or.inr (fun z => ?_)⟩)
    have := isKs_ne hk z
    omega
/-! one goes -/
def dpi (cn p i : Nat) : Nat := if i = cn - 1 then p else if p ≤ i ∧ i < cn - 1 then i + 1 else i
theorem dpi_lt {cn p i : Nat} (hp : p < cn) (hc : cn ≤ 32) (hi : i < 32) : dpi cn p i < 32 := by
  unfold dpi
  split
  · omega
  · split <;> omega
theorem dpi_lt2 {cn p i : Nat} (hp : p < cn) (hi : i < cn - 1) : dpi cn p i < cn := by
  unfold dpi
  split
  · omega
  · split <;> omega
theorem dpi_inj {cn p i j : Nat} (hp : p < cn) (hc : cn ≤ 32) (e : dpi cn p i = dpi cn p j) : i = j := by
  unfold dpi at e
  split at e
  · split at e
    · omega
    · split at e <;> omega
  · split at e
    · split at e
      · omega
      · split at e <;> omega
    · split at e
      · omega
      · split at e <;> omega
theorem dr_loop {h0 : rk_S} {pn cn : Nat} (hp : pn < cn) (hc : cn ≤ 32) : ∀ (n d : Nat) (h : rk_S) (o : Option Value × rk_S) (p j : Int32) (jn : Nat), yG h → (gi h 20 1).toInt = cn → j.toInt = jn → pn ≤ jn → jn ≤ cn - 1 → (∀ b k, b ≠ 21 → rk_get h b k = rk_get h0 b k) → (∀ i, i < 32 → gr h 21 i = if pn ≤ i ∧ i < jn then gr h0 21 (i + 1) else gr h0 21 i) → rk_ex n d rm_X5_drop 18 [(0, .ref 20), (1, .int p), (2, .ref (gr h0 21 pn)), (3, .int j)] [] h = some o → ∃ h', o = (none, h') ∧ yG h' ∧ (gi h' 20 1).toInt = ((cn - 1 : Nat) : Int) ∧ (∀ b k, b ≠ 21 → ¬ (b = 20 ∧ k = 1) → rk_get h' b k = rk_get h0 b k) ∧ ∀ i, i < 32 → gr h' 21 i = gr h0 21 (dpi cn pn i) := by
  intro n
  induction n using Nat.strongRecOn with
  | ind n ih =>
    intro d h o p j jn hG hcn hj hpj hjc hfr hrow E
    have ej := y_ix hj
    have hj1 := y_inc hj (by omega)
    have ej1 := y_ix hj1
    have e201 : yE 20 1 h := hG.yE (by decide) (by decide) (by rw [yln_sh.1]; decide)
    have ec : ((gi h 20 1) - (1 : Int32)).toInt = ((cn - 1 : Nat) : Int) := by
      rw [Int32.toInt_sub, hcn, show (1 : Int32).toInt = 1 from rfl, rk_bm (by omega) (by omega)]
      omega
    have A := ys_dr hG e201 E
    rw [ej, ej1, y_ix ec] at A
    rcases A with ⟨c1, hG', rfl⟩ | ⟨c1, m, hm, hG', E'⟩
    · have hjn : jn = cn - 1 := by omega
      refine ⟨_, rfl, hG', ?_, fun b k z1 z2 => ?_, fun i hi => ?_⟩
      · rw [gi_x (by decide), gi_s e201, ec]
      · rw [rk_get_ne (Or.inl (Ne.symm z1)), rk_get_ne (by omega)]
        exact hfr b k z1
      · unfold dpi
        by_cases e : i = cn - 1
        · subst e
          rw [if_pos rfl, gr_s (yE_pt.mpr (hG.yE (by decide) (by decide) (by rw [yln_sh.2.1]; exact hi)))]
        · rw [if_neg e, gr_y (Ne.symm e), gr_x (by decide), hrow i hi]
          by_cases e2 : pn ≤ i ∧ i < cn - 1
          · rw [if_pos e2, if_pos (by omega)]
          · rw [if_neg e2, if_neg (by omega)]
    · refine ih m hm d _ o p (j + 1) (jn + 1) hG' ?_ hj1 (by omega) (by omega) (fun b k hb => ?_) (fun i hi => ?_) E'
      · rw [gi_x (by decide)]; exact hcn
      · rw [rk_get_ne (Or.inl (Ne.symm hb))]; exact hfr b k hb
      · by_cases e : i = jn
        · subst e
          rw [gr_s (hG.yE (by decide) (by decide) (by rw [yln_sh.2.1]; exact hi)), hrow (i + 1) (by omega), if_neg (by omega), if_pos (by omega)]
        · rw [gr_y (Ne.symm e), hrow i hi]
          by_cases e2 : pn ≤ i ∧ i < jn
          · rw [if_pos e2, if_pos (by omega)]
          · rw [if_neg e2, if_neg (by omega)]
theorem drop_ok {N : Nat} {ln : Nat → Nat} {cd : Nat → Nat → Int} {n d : Nat} {h : rk_S} {o : Option Value × rk_S} {p : Int32} (hG : yG h) (hS : SV N ln cd h) (E : rk_ex n d rm_X5_drop 0 [(0, .ref 20), (1, .int p)] [] h = some o) : ∃ h', o = (none, h') ∧ yG h' ∧ SV N ln cd h' ∧ (∀ b k, b ≠ 21 → ¬ (b = 20 ∧ k = 1) → rk_get h' b k = rk_get h b k) := by
  obtain ⟨⟨cn, s1, s2, s3⟩, s4, s5⟩ := id hS
  rcases ys_dr0 hG E with ⟨c1, -, rfl⟩ | ⟨c1, c2, -, rfl⟩ | ⟨c1, c2, m, hm, -, E1⟩
  · exact ⟨h, rfl, hG, hS, fun _ _ _ _ => rfl⟩
  · exact ⟨h, rfl, hG, hS, fun _ _ _ _ => rfl⟩
  have hp : p.toInt = (p.toInt.toNat : Nat) := by omega
  rw [y_ix hp] at E1
  obtain ⟨h', rfl, g1, g2, g3, g4⟩ := dr_loop (pn := p.toInt.toNat) (cn := cn) (by omega) s2 m d h o p p p.toInt.toNat hG s1 hp (Nat.le_refl _) (by omega) (fun _ _ _ => rfl) (fun i _ => by rw [if_neg (by omega)]) E1
  refine ⟨h', rfl, g1, ⟨⟨cn - 1, g2, by omega, fun i hi => ?_⟩, fun i hi => ?_, fun i j hi hj e => ?_⟩, g3⟩
  · rw [g4 i (by omega)]
    have hk := s4 (dpi cn p.toInt.toNat i) (dpi_lt (by omega) s2 (by omega))
    have hr := isKs_r hk
    exact KV_eq (fun b k hb => g3 b k (by omega) (by omega)) (s3 _ (dpi_lt2 (by omega) hi))
  · rw [g4 i hi]
    exact s4 _ (dpi_lt (by omega) s2 hi)
  · rw [g4 i hi, g4 j hj] at e
    exact dpi_inj (cn := cn) (p := p.toInt.toNat) (by omega) s2 (s5 _ _ (dpi_lt (by omega) s2 hi) (dpi_lt (by omega) s2 hj) e)
