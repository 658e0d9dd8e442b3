/-! gatherFromCalled, spreadToCallers: what they leave -/
theorem gi_eq {h h' : rk_S} {a k : Nat} (e : rk_get h' a k = rk_get h a k) : gi h' a k = gi h a k := by unfold gi; rw [e]
theorem gr_eq {h h' : rk_S} {a k : Nat} (e : rk_get h' a k = rk_get h a k) : gr h' a k = gr h a k := by unfold gr; rw [e]
set_option maxRecDepth 100000 in
theorem yln_p : yln 15 = 10 ∧ yln 16 = 10 ∧ yln 17 = 10 ∧ yln 14 = 10 := ⟨rfl, rfl, rfl, rfl⟩
def gaP (r j : Nat) (h h' : rk_S) : Prop := (∀ a k, ¬ ((a = 15 ∨ a = 16) ∧ k = r) → rk_get h' a k = rk_get h a k) ∧ ∀ cl, cl = 15 ∨ cl = 16 → ∀ b, bt (gi h' cl r) b = true ↔ (bt (gi h cl r) b = true ∨ ∃ k, j ≤ k ∧ k < 10 ∧ bt (gi h 17 r) k = true ∧ bt (gi h cl k) b = true)
theorem ga_put {h : rk_S} (hG : yG h) {r : Nat} (hr : r < 10) (x y : Int32) : (∀ a k, ¬ ((a = 15 ∨ a = 16) ∧ k = r) → rk_get (rk_pt (rk_pt h 15 r (.int x)) 16 r (.int y)) a k = rk_get h a k) ∧ gi (rk_pt (rk_pt h 15 r (.int x)) 16 r (.int y)) 15 r = x ∧ gi (rk_pt (rk_pt h 15 r (.int x)) 16 r (.int y)) 16 r = y := by
  obtain ⟨_, w16, -, -, -, -, x16⟩ := hG.at (a := 16) (k := r) (by decide) (by decide) (by rw [yln_p.2.1]; exact hr)
  refine ⟨fun a k hn => (rk_get_ne (by omega)).trans (rk_get_ne (by omega)), ?_, ?_⟩
  · rw [gi_x (by decide)]
    exact hG.gi_put (by decide) (by decide) (by rw [yln_p.1]; exact hr) x
  · exact gi_self (w := w16) (by rw [rk_get_ne (Or.inl (by decide))]; exact x16)
theorem ga_loop : ∀ (n d : Nat) (h : rk_S) (o : Option Value × rk_S) (c j : Int32) (r jn : Nat), yG h → c.toInt = r → r < 10 → j.toInt = jn → jn ≤ 10 → rk_ex n d rm_X3_gatherFromCalled 2 [(0, .ref 2), (1, .int c), (2, .int j)] [] h = some o → ∃ h', o = (none, h') ∧ yG h' ∧ gaP r jn h h' := by
  intro n
  induction n using Nat.strongRecOn with
  | ind n ih =>
    intro d h o c j r jn hG hc hr hj hjn E
    have ec := y_ix hc
    have ej := y_ix hj
    have ejn : j.toInt.toNat = jn := by omega
    rcases yt_gat hG E with ⟨c1, hG', rfl⟩ | ⟨c1, c2, m, hm, hG', E'⟩ | ⟨c1, c2, m, hm, hG', E'⟩
    · refine ⟨h, rfl, hG, fun a k _ => rfl, fun cl hcl b => ⟨Or.inl, fun z => ?_⟩⟩
      rcases z with z | ⟨k, k1, k2, -⟩
      · exact z
      · omega
    · have e2 : bt (gi h 17 r) jn = false := by
        have e1 := (y_bit (by omega) (by omega)).mp c2
        rw [ec, ejn] at e1
        exact e1
      obtain ⟨h', rfl, g1, g2, g3⟩ := ih m hm d h o c (j + 1) r (jn + 1) hG' hc hr (y_inc hj (by omega)) (by omega) E'
      refine ⟨h', rfl, g1, g2, fun cl hcl b => ?_⟩
      rw [g3 cl hcl b]
      constructor
      · rintro (z | ⟨k, k1, k2, k3⟩)
        · exact Or.inl z
        · exact Or.inr ⟨k, by omega, k2, k3⟩
      · rintro (z | ⟨k, k1, k2, k3, k4⟩)
        · exact Or.inl z
        · by_cases e : k = jn
          · rw [e, e2] at k3
            cases k3
          · exact Or.inr ⟨k, by omega, k2, k3, k4⟩
    · have e1 : bt (gi h 17 r) jn = true := by
        cases e : bt (gi h 17 r) jn with
        | true => rfl
        | false =>
          refine absurd ((y_bit (by omega) (by omega)).mpr ?_) c2
          rw [ejn, ec]
          exact e
      have hj10 : jn < 10 := by omega
      rw [ec, ej] at hG' E'
      obtain ⟨p1, p2, p3⟩ := ga_put hG hr (gi h 15 r ||| gi h 15 jn) (gi h 16 r ||| gi h 16 jn)
      generalize rk_pt (rk_pt h 15 r (.int (gi h 15 r ||| gi h 15 jn))) 16 r (.int (gi h 16 r ||| gi h 16 jn)) = H at *
      obtain ⟨h', rfl, g1, g2, g3⟩ := ih m hm d H o c (j + 1) r (jn + 1) hG' hc hr (y_inc hj (by omega)) (by omega) E'
      refine ⟨h', rfl, g1, fun a k hn => (g2 a k hn).trans (p1 a k hn), fun cl hcl b => ?_⟩
      have f17 : gi H 17 r = gi h 17 r := gi_eq (p1 17 r (by omega))
      have fr : gi H cl r = gi h cl r ||| gi h cl jn := by
        rcases hcl with rfl | rfl
        · exact p2
        · exact p3
      have fk : ∀ k, k ≠ r → gi H cl k = gi h cl k := fun k hk => gi_eq (p1 cl k (by omega))
      rw [g3 cl hcl b, f17, fr, bt_or, Bool.or_eq_true]
      constructor
      · rintro ((z | z) | ⟨k, k1, k2, k3, k4⟩)
        · exact Or.inl z
        · exact Or.inr ⟨jn, Nat.le_refl _, hj10, e1, z⟩
        · by_cases e : k = r
          · rw [e, fr, bt_or, Bool.or_eq_true] at k4
            rcases k4 with z | z
            · exact Or.inl z
            · exact Or.inr ⟨jn, Nat.le_refl _, hj10, e1, z⟩
          · rw [fk k e] at k4
            exact Or.inr ⟨k, by omega, k2, k3, k4⟩
      · rintro (z | ⟨k, k1, k2, k3, k4⟩)
        · exact Or.inl (Or.inl z)
        · by_cases e : k = jn
          · rw [e] at k4
            exact Or.inl (Or.inr k4)
          · by_cases er : k = r
            · rw [er] at k4
              exact Or.inl (Or.inl k4)
            · exact Or.inr ⟨k, by omega, k2, k3, by rw [fk k er]; exact k4⟩
theorem ga_ok {n d : Nat} {h : rk_S} {o : Option Value × rk_S} {c : Int32} {r : Nat} (hG : yG h) (hc : c.toInt = r) (hr : r < 10) (E : rk_ex n d rm_X3_gatherFromCalled 0 [(0, .ref 2), (1, .int c)] [] h = some o) : ∃ h', o = (none, h') ∧ yG h' ∧ gaP r 0 h h' := by
  obtain ⟨m, hm, hG', E'⟩ := yt_gat0 hG E
  exact ga_loop m d h o c 0 r 0 hG' hc hr rfl (by omega) E'
def clo (h : rk_S) (Y : Nat → Prop) : Prop := ∀ r k, r < 10 → k < 10 → bt (gi h 17 r) k = true → Y k → Y r
def spU (h0 h : rk_S) (cl b : Nat) (X : Nat → Prop) : Prop := ∀ Y : Nat → Prop, clo h0 Y → (∀ r, r < 10 → X r → Y r) → ∀ r, r < 10 → bt (gi h cl r) b = true → Y r
def spI (h0 h : rk_S) (t c : Nat) : Prop := (∀ a k, ¬ (a = 15 ∨ a = 16) → rk_get h a k = rk_get h0 a k) ∧ ∀ cl, cl = 15 ∨ cl = 16 → ∀ b,
  (∀ r, r < 10 → bt (gi h0 cl r) b = true → bt (gi h cl r) b = true) ∧ spU h0 h cl b (fun r => bt (gi h0 cl r) b = true) ∧
  ∃ X : Nat → Bool, (clo h0 (fun r => X r = true) ∨ t + 1 ≤ c10 X) ∧ (∀ r, r < 10 → X r = true → bt (gi h cl r) b = true) ∧ (∀ r k, r < c → r < 10 → k < 10 → bt (gi h0 17 r) k = true → X k = true → bt (gi h cl r) b = true) ∧ spU h0 h cl b (fun r => X r = true)
def spE (h0 h : rk_S) : Prop := (∀ a k, ¬ (a = 15 ∨ a = 16) → rk_get h a k = rk_get h0 a k) ∧ ∀ cl, cl = 15 ∨ cl = 16 → ∀ b,
  (∀ r, r < 10 → bt (gi h0 cl r) b = true → bt (gi h cl r) b = true) ∧ spU h0 h cl b (fun r => bt (gi h0 cl r) b = true) ∧ clo h0 (fun r => bt (gi h cl r) b = true)
/-- nothing stands beyond the count -/
def sp0 (h : rk_S) (N : Nat) : Prop := ∀ r, r < 10 → N ≤ r → (∀ k, bt (gi h 17 r) k = false) ∧ ∀ cl, cl = 15 ∨ cl = 16 → ∀ b, bt (gi h cl r) b = false
theorem sp_step {h0 h h1 : rk_S} {t c : Nat} (hc : c < 10) (hI : spI h0 h t c) (hg : gaP c 0 h h1) : spI h0 h1 t (c + 1) := by
  obtain ⟨f1, f2⟩ := hI
  obtain ⟨g1, g2⟩ := hg
  have e17 : ∀ r, gi h 17 r = gi h0 17 r := fun r => gi_eq (f1 17 r (by omega))
  refine ⟨fun a k hn => (g1 a k (fun z => hn z.1)).trans (f1 a k hn), fun cl hcl b => ?_⟩
  have v : ∀ r, r < 10 → (bt (gi h1 cl r) b = true ↔ (bt (gi h cl r) b = true ∨ (r = c ∧ ∃ k, k < 10 ∧ bt (gi h0 17 c) k = true ∧ bt (gi h cl k) b = true))) := by
    intro r hr
    by_cases e : r = c
    · subst e
      rw [g2 cl hcl b, e17]
      constructor
      · rintro (z | ⟨k, -, k2, k3, k4⟩)
        · exact Or.inl z
        · exact Or.inr ⟨rfl, k, k2, k3, k4⟩
      · rintro (z | ⟨-, k, k2, k3, k4⟩)
        · exact Or.inl z
        · exact Or.inr ⟨k, Nat.zero_le _, k2, k3, k4⟩
    · rw [gi_eq (g1 cl r (fun z => e z.2))]
      constructor
      · exact Or.inl
      · rintro (z | ⟨z, -⟩)
        · exact z
        · exact absurd z e
  obtain ⟨m1, u1, X, x1, x2, x3, x4⟩ := f2 cl hcl b
  have up : ∀ Z : Nat → Prop, spU h0 h cl b Z → spU h0 h1 cl b Z := by
    intro Z hZ Y hY hX r hr hb
    rcases (v r hr).mp hb with z | ⟨rfl, k, k1, k2, k3⟩
    · exact hZ Y hY hX r hr z
    · exact hY r k hr k1 k2 (hZ Y hY hX k k1 k3)
  refine ⟨fun r hr hb => (v r hr).mpr (Or.inl (m1 r hr hb)), up _ u1, X, x1, fun r hr hb => (v r hr).mpr (Or.inl (x2 r hr hb)), fun r k hrc hr hk hb hx => ?_, up _ x4⟩
  by_cases e : r = c
  · subst e
    exact (v r hr).mpr (Or.inr ⟨rfl, k, hk, hb, x2 k hk hx⟩)
  · exact (v r hr).mpr (Or.inl (x3 r k (by omega) hr hk hb hx))
theorem sp_round {h0 h : rk_S} {t c N : Nat} (h0N : sp0 h0 N) (hI : spI h0 h t c) (hc : N ≤ c) {cl : Nat} (hcl : cl = 15 ∨ cl = 16) (b : Nat) : clo h0 (fun r => bt (gi h cl r) b = true) ∨ t + 1 + 1 ≤ c10 (fun r => bt (gi h cl r) b) := by
  obtain ⟨m1, u1, X, x1, x2, x3, x4⟩ := hI.2 cl hcl b
  by_cases hX : clo h0 (fun r => X r = true)
  · refine Or.inl (fun r k hr hk hb hk2 => x2 r hr (hX r k hr hk hb (x4 _ hX (fun _ _ z => z) k hk hk2)))
  · refine Or.inr (Classical.byContradiction (fun hn => hX (fun r k hr hk hb hxk => ?_)))
    rcases x1 with x1 | x1
    · exact absurd x1 hX
    · cases e : X r with
      | true => rfl
      | false =>
        have hrN : r < N := Classical.byContradiction (fun z => by
          rw [(h0N r hr (by omega)).1 k] at hb
          cases hb)
        have := c10_lt (X := X) (Y := fun r => bt (gi h cl r) b) x2 hr e (x3 r k (by omega) hr hk hb hxk)
        omega
theorem sp_loop {h0 : rk_S} {N : Nat} (h0N : sp0 h0 N) (hN10 : N ≤ 10) : ∀ (n d : Nat) (h : rk_S) (o : Option Value × rk_S) (t c : Int32) (tn cn : Nat), yG h → (gi h 2 5).toInt = N → t.toInt = tn → c.toInt = cn → tn < N → cn ≤ N → spI h0 h tn cn → rk_ex n d rm_X3_spreadToCallers 12 [(0, .ref 2), (1, .int t), (2, .int c)] [] h = some o → ∃ h', o = (none, h') ∧ yG h' ∧ spE h0 h' := by
  intro n
  induction n using Nat.strongRecOn with
  | ind n ih =>
    intro d h o t c tn cn hG hN ht hc htN hcN hI E
    have ht1 := y_inc ht (by omega)
    rcases yt_spr hG E with ⟨c1, c2, hG', rfl⟩ | ⟨c1, c2, m, hm, hG', E'⟩ | ⟨c1, m, hm, hG', E'⟩
    · refine ⟨h, rfl, hG, hI.1, fun cl hcl b => ⟨(hI.2 cl hcl b).1, (hI.2 cl hcl b).2.1, ?_⟩⟩
      rcases sp_round h0N hI (by omega) hcl b with z | z
      · exact z
      · have := c10_le (X := fun r => bt (gi h cl r) b) (N := N) (fun r hr hb => (hI.2 cl hcl b).2.1 (fun r => r < N) (fun r k hr hk hb _ => Classical.byContradiction (fun z => by
          rw [(h0N r hr (by omega)).1 k] at hb
          cases hb)) (fun r hr hb => Classical.byContradiction (fun z => by
          have hb : bt (gi h0 cl r) b = true := hb
          rw [(h0N r hr (by omega)).2 cl hcl b] at hb
          cases hb)) r hr hb)
        omega
    · refine ih m hm d h o (t + 1) 0 (tn + 1) 0 hG' hN ht1 rfl (by omega) (by omega) ⟨hI.1, fun cl hcl b => ⟨(hI.2 cl hcl b).1, (hI.2 cl hcl b).2.1, fun r => bt (gi h cl r) b, sp_round h0N hI (by omega) hcl b, fun _ _ z => z, fun r k z => absurd z (Nat.not_lt_zero r), fun Y _ hY r hr hb => hY r hr hb⟩⟩ E'
    · obtain ⟨m1, d1, o1, hm1, E1, E2⟩ := E_call (ar := ([.ref 2, .int c], [])) rfl rfl rfl rfl rfl rfl E'
      replace E1 : rk_ex m1 d1 rm_X3_gatherFromCalled 0 [(0, .ref 2), (1, .int c)] [] h = some o1 := E1
      obtain ⟨h1, rfl, hG1, hg⟩ := ga_ok (r := cn) hG' hc (by omega) E1
      replace E2 : rk_ex m1 d rm_X3_spreadToCallers 25 [(0, .ref 2), (1, .int t), (2, .int c)] [] h1 = some o := E2
      obtain ⟨m2, hm2, hG2, E3⟩ := yt_spr1 hG1 E2
      have e25 : gi h1 2 5 = gi h 2 5 := gi_eq (hg.1 2 5 (by omega))
      exact ih m2 (by omega) d h1 o t (c + 1) tn (cn + 1) hG2 (by rw [e25]; exact hN) ht (y_inc hc (by omega)) htN (by omega) (sp_step (by omega) hI hg) E3
theorem sp_ok {n d : Nat} {h : rk_S} {o : Option Value × rk_S} {N : Nat} (hG : yG h) (hN : (gi h 2 5).toInt = N) (hN10 : N ≤ 10) (h0N : sp0 h N) (E : rk_ex n d rm_X3_spreadToCallers 0 [(0, .ref 2)] [] h = some o) : ∃ h', o = (none, h') ∧ yG h' ∧ spE h h' := by
  rcases yt_spr0 hG E with ⟨c1, hG', rfl⟩ | ⟨c1, m, hm, hG', E'⟩
  · refine ⟨h, rfl, hG, fun _ _ _ => rfl, fun cl hcl b => ⟨fun _ _ z => z, fun Y _ hY r hr hb => hY r hr hb, fun r k hr hk hb _ => ?_⟩⟩
    rw [(h0N r hr (by omega)).1 k] at hb
    cases hb
  · refine sp_loop h0N hN10 m d h o 0 0 0 0 hG' hN rfl rfl (by omega) (by omega) ⟨fun _ _ _ => rfl, fun cl hcl b => ⟨fun _ _ z => z, fun Y _ hY r hr hb => hY r hr hb, fun r => bt (gi h cl r) b, ?_, fun _ _ z => z, fun r k z => absurd z (Nat.not_lt_zero r), fun Y _ hY r hr hb => hY r hr hb⟩⟩ E'
    by_cases e : ∃ r, r < 10 ∧ bt (gi h cl r) b = true
    · obtain ⟨r, hr, hb⟩ := e
      exact Or.inr (c10_pos (X := fun r => bt (gi h cl r) b) hr hb)
    · exact Or.inl (fun r k hr hk _ z => absurd ⟨k, hk, z⟩ e)
