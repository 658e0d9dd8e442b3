/-! what a routine may do and read: the codes alone say it, and the class's rows keep it -/
def cds (h : rk_S) (r : Nat) (c : Int) : Prop := ∃ i : Nat, (i : Int) < rk_iv h 14 r ∧ rk_iv h (4 + r) i = c
def rch (X : Nat → Int → Prop) (r k : Nat) : Prop := ∀ S : Nat → Prop, S r → (∀ x y : Nat, x < 10 → y < 10 → S x → X x (400 + (y : Int)) → S y) → S k
def own (cl b : Nat) (c : Int) : Prop := (cl = 15 ∧ ((b = 0 ∧ 300 ≤ c ∧ c ≤ 315) ∨ (b = 1 ∧ c = 508))) ∨ (cl = 16 ∧ 200 ≤ c ∧ c ≤ 215 ∧ c = 200 + (b : Int))
def may (X : Nat → Int → Prop) (cl r b : Nat) : Prop := ∃ k c, k < 10 ∧ rch X r k ∧ X k c ∧ own cl b c
def K1 (h : rk_S) : Prop := (∀ r, r < 10 → ∀ k, bt (gi h 17 r) k = true ↔ (k < 10 ∧ cds h r (400 + (k : Int)))) ∧ ∀ cl, cl = 15 ∨ cl = 16 → ∀ r, r < 10 → ∀ b, bt (gi h cl r) b = true ↔ may (cds h) cl r b
theorem rch_refl {X : Nat → Int → Prop} (r : Nat) : rch X r r := fun _ h _ => h
theorem rch_step {X : Nat → Int → Prop} {r s k : Nat} (hr : r < 10) (hs : s < 10) (h1 : X r (400 + (s : Int))) (h2 : rch X s k) : rch X r k := fun S a b => h2 S (b r s hr hs a h1) b
theorem rch_mono {X Y : Nat → Int → Prop} (hXY : ∀ r c, r < 10 → X r c → Y r c) {r k : Nat} (h : rch X r k) : rch Y r k := fun S a b => h S a (fun x y hx hy s e => b x y hx hy s (hXY x _ hx e))
theorem may_mono {X Y : Nat → Int → Prop} (hXY : ∀ r c, r < 10 → X r c → Y r c) {cl r b : Nat} (h : may X cl r b) : may Y cl r b := by
  obtain ⟨k, c, h1, h2, h3, h4⟩ := h
  exact ⟨k, c, h1, rch_mono hXY h2, hXY k c h1 h3, h4⟩
theorem may_iff {X Y : Nat → Int → Prop} (hXY : ∀ r c, r < 10 → (X r c ↔ Y r c)) (cl r b : Nat) : may X cl r b ↔ may Y cl r b := ⟨may_mono (fun r c hr => (hXY r c hr).mp), may_mono (fun r c hr => (hXY r c hr).mpr)⟩
theorem cds_eq {h h' : rk_S} (he : ∀ b k, 4 ≤ b → b ≤ 17 → rk_get h' b k = rk_get h b k) {r : Nat} (hr : r < 10) (c : Int) : cds h' r c ↔ cds h r c := by
  unfold cds
  constructor
  · rintro ⟨i, h1, h2⟩
    exact ⟨i, by rw [← rk_iv_eq (he 14 r (by omega) (by omega))]; exact h1, by rw [← rk_iv_eq (he (4 + r) i (by omega) (by omega))]; exact h2⟩
  · rintro ⟨i, h1, h2⟩
    exact ⟨i, by rw [rk_iv_eq (he 14 r (by omega) (by omega))]; exact h1, by rw [rk_iv_eq (he (4 + r) i (by omega) (by omega))]; exact h2⟩
theorem K1_eq {h h' : rk_S} (he : ∀ b k, 4 ≤ b → b ≤ 17 → rk_get h' b k = rk_get h b k) (hK : K1 h) : K1 h' := by
  refine ⟨fun r hr k => ?_, fun cl hcl r hr b => ?_⟩
  · rw [gi_eq (he 17 r (by omega) (by omega)), hK.1 r hr k, cds_eq he hr]
  · rw [gi_eq (he cl r (by omega) (by omega)), hK.2 cl hcl r hr b]
    exact (may_iff (fun r c hr => cds_eq he hr c) cl r b).symm
/-- a routine without codes may nothing -/
theorem may_none {X : Nat → Int → Prop} {cl r b : Nat} (hX : ∀ c, ¬ X r c) : ¬ may X cl r b := by
  rintro ⟨k, c, -, h2, h3, -⟩
  have := h2 (fun y => y = r) rfl (fun x y _ _ hx e => by
    subst hx
    exact absurd e (hX _))
  subst this
  exact hX c h3
def nw (cl b : Nat) (c : Int) : Prop := (cl = 17 ∧ b < 10 ∧ c = 400 + (b : Int)) ∨ own cl b c
/-- a code more: the rows before they are spread -/
def adP (rn ln : Nat) (c : Int32) (h H : rk_S) : Prop := (∀ a k, ¬ (a = 4 + rn ∧ k = ln) → ¬ (14 ≤ a ∧ a ≤ 17 ∧ k = rn) → rk_get H a k = rk_get h a k) ∧ gi H (4 + rn) ln = c ∧ gi H 14 rn = gi h 14 rn + (1 : Int32) ∧ ∀ cl, 15 ≤ cl → cl ≤ 17 → ∀ b, bt (gi H cl rn) b = true ↔ (bt (gi h cl rn) b = true ∨ nw cl b c.toInt)
set_option maxRecDepth 100000 in
theorem yln_c : ∀ rn, rn < 10 → yln (4 + rn) = 40 := by decide +kernel
theorem ad_base {h : rk_S} (hG : yG h) {rn ln : Nat} (hr : rn < 10) (hl : ln < 40) (c v : Int32) : (∀ a k, ¬ (a = 4 + rn ∧ k = ln) → ¬ (a = 14 ∧ k = rn) → rk_get (rk_pt (rk_pt h (4 + rn) ln (.int c)) 14 rn (.int v)) a k = rk_get h a k) ∧ gi (rk_pt (rk_pt h (4 + rn) ln (.int c)) 14 rn (.int v)) (4 + rn) ln = c ∧ gi (rk_pt (rk_pt h (4 + rn) ln (.int c)) 14 rn (.int v)) 14 rn = v := by
  obtain ⟨_, w, -, -, -, -, x14⟩ := hG.at (a := 14) (k := rn) (by decide) (by decide) (by rw [yln_p.2.2.2]; exact hr)
  refine ⟨fun a k h1 h2 => (rk_get_ne (by omega)).trans (rk_get_ne (by omega)), ?_, ?_⟩
  · rw [gi_x (by omega)]
    exact hG.gi_put (by omega) (by omega) (by rw [yln_c rn hr]; exact hl) c
  · exact gi_self (w := w) (by rw [rk_get_ne (Or.inl (by omega))]; exact x14)
theorem ad_fin0 {h : rk_S} (hG : yG h) {rn ln : Nat} (hr : rn < 10) (hl : ln < 40) {c : Int32} (hn : ∀ cl b, 15 ≤ cl → cl ≤ 17 → ¬ nw cl b c.toInt) : adP rn ln c h (rk_pt (rk_pt h (4 + rn) ln (.int c)) 14 rn (.int (gi h 14 rn + (1 : Int32)))) := by
  obtain ⟨p1, p2, p3⟩ := ad_base hG hr hl c (gi h 14 rn + (1 : Int32))
  refine ⟨fun a k h1 h2 => p1 a k h1 (by omega), p2, p3, fun cl h1 h2 b => ?_⟩
  rw [gi_eq (p1 cl rn (by omega) (by omega))]
  exact ⟨Or.inl, fun z => z.elim id (fun z => absurd z (hn cl b h1 h2))⟩
theorem ad_fin {h : rk_S} (hG : yG h) {rn ln : Nat} (hr : rn < 10) (hl : ln < 40) {c w : Int32} {cl0 : Nat} (hc0 : 15 ≤ cl0 ∧ cl0 ≤ 17) (hn : ∀ cl b, 15 ≤ cl → cl ≤ 17 → (nw cl b c.toInt ↔ (cl = cl0 ∧ bt w b = true))) : adP rn ln c h (rk_pt (rk_pt (rk_pt h (4 + rn) ln (.int c)) 14 rn (.int (gi h 14 rn + (1 : Int32)))) cl0 rn (.int (gi h cl0 rn ||| w))) := by
  obtain ⟨p1, p2, p3⟩ := ad_base hG hr hl c (gi h 14 rn + (1 : Int32))
  have hy : yln cl0 = 10 := by
    have : cl0 = 15 ∨ cl0 = 16 ∨ cl0 = 17 := by omega
    rcases this with rfl | rfl | rfl
    · exact yln_p.1
    · exact yln_p.2.1
    · exact yln_p.2.2.1
  obtain ⟨_, w0, -, -, -, -, x0⟩ := hG.at (a := cl0) (k := rn) (by omega) (by omega) (by rw [hy]; exact hr)
  generalize rk_pt (rk_pt h (4 + rn) ln (.int c)) 14 rn (.int (gi h 14 rn + (1 : Int32))) = H at *
  refine ⟨fun a k h1 h2 => (rk_get_ne (by omega)).trans (p1 a k h1 (by omega)), ?_, ?_, fun cl h1 h2 b => ?_⟩
  · rw [gi_x (by omega)]; exact p2
  · rw [gi_x (by omega)]; exact p3
  · by_cases e : cl0 = cl
    · subst e
      rw [gi_self (w := w0) (by rw [p1 cl0 rn (by omega) (by omega)]; exact x0), bt_or, Bool.or_eq_true, hn cl0 b h1 h2]
      exact ⟨fun z => z.imp id (fun z => ⟨rfl, z⟩), fun z => z.imp id (fun z => z.2)⟩
    · rw [gi_x e, gi_eq (p1 cl rn (by omega) (by omega)), hn cl b h1 h2]
      exact ⟨Or.inl, fun z => z.elim id (fun z => absurd z.1.symm e)⟩
theorem cds_add {h H : rk_S} {rn ln : Nat} {c : Int32} (hr : rn < 10) (hl : rk_iv h 14 rn = ln) (hl4 : ln < 40) (hA : adP rn ln c h H) {r : Nat} (hr2 : r < 10) (x : Int) : cds H r x ↔ (cds h r x ∨ (r = rn ∧ x = c.toInt)) := by
  obtain ⟨p1, p2, p3, -⟩ := hA
  have e14 : rk_iv H 14 rn = ln + 1 := by
    have e := gi_iv h 14 rn
    rw [hl] at e
    rw [← gi_iv, p3, y_inc e (by omega)]
    omega
  have ec : rk_iv H (4 + rn) ln = c.toInt := by rw [← gi_iv, p2]
  unfold cds
  by_cases e : r = rn
  · subst e
    rw [e14, hl]
    constructor
    · rintro ⟨i, h1, h2⟩
      by_cases ei : i = ln
      · subst ei
        exact Or.inr ⟨rfl, by rw [← h2, ec]⟩
      · exact Or.inl ⟨i, by omega, by rw [← h2]; exact (rk_iv_eq (p1 (4 + r) i (by omega) (by omega))).symm⟩
    · rintro (⟨i, h1, h2⟩ | ⟨-, h2⟩)
      · exact ⟨i, by omega, by rw [← h2]; exact rk_iv_eq (p1 (4 + r) i (by omega) (by omega))⟩
      · exact ⟨ln, by omega, by rw [ec, h2]⟩
  · rw [rk_iv_eq (p1 14 r (by omega) (by omega))]
    constructor
    · rintro ⟨i, h1, h2⟩
      exact Or.inl ⟨i, h1, by rw [← h2]; exact (rk_iv_eq (p1 (4 + r) i (by omega) (by omega))).symm⟩
    · rintro (⟨i, h1, h2⟩ | ⟨z, -⟩)
      · exact ⟨i, h1, by rw [← h2]; exact rk_iv_eq (p1 (4 + r) i (by omega) (by omega))⟩
      · exact absurd z e
theorem sp0_add {h H : rk_S} {rn ln N : Nat} {c : Int32} (hK : K1 h) (hrN : rn < N) (hz : ∀ r, r < 10 → N ≤ r → rk_iv h 14 r = 0) (hA : adP rn ln c h H) : sp0 H N := by
  intro r hr hN
  have hX : ∀ c, ¬ cds h r c := by
    rintro c ⟨i, h1, -⟩
    rw [hz r hr hN] at h1
    omega
  refine ⟨fun k => ?_, fun cl hcl b => ?_⟩
  · rw [gi_eq (hA.1 17 r (by omega) (by omega))]
    cases e : bt (gi h 17 r) k with
    | false => rfl
    | true => exact absurd ((hK.1 r hr k).mp e).2 (hX _)
  · rw [gi_eq (hA.1 cl r (by omega) (by omega))]
    cases e : bt (gi h cl r) b with
    | false => rfl
    | true => exact absurd ((hK.2 cl hcl r hr b).mp e) (may_none hX)
theorem K1_add {h H h' : rk_S} {rn ln : Nat} {c : Int32} (hK : K1 h) (hr : rn < 10) (hl : rk_iv h 14 rn = ln) (hl4 : ln < 40) (hA : adP rn ln c h H) (hE : spE H h') : K1 h' := by
  have eX : ∀ r x, r < 10 → (cds h' r x ↔ cds H r x) := fun r x hr => by
    unfold cds
    rw [rk_iv_eq (hE.1 14 r (by omega))]
    constructor
    · rintro ⟨i, h1, h2⟩
      exact ⟨i, h1, by rw [← h2]; exact (rk_iv_eq (hE.1 (4 + r) i (by omega))).symm⟩
    · rintro ⟨i, h1, h2⟩
      exact ⟨i, h1, by rw [← h2]; exact rk_iv_eq (hE.1 (4 + r) i (by omega))⟩
  have eA := fun r x hr2 => cds_add (r := r) hr hl hl4 hA hr2 x
  have e17 : ∀ r, r < 10 → ∀ k, bt (gi H 17 r) k = true ↔ (k < 10 ∧ cds H r (400 + (k : Int))) := by
    intro r hr2 k
    rw [eA r _ hr2]
    by_cases e : r = rn
    · subst e
      rw [hA.2.2.2 17 (by omega) (by omega) k, hK.1 r hr2 k]
      constructor
      · rintro (⟨h1, h2⟩ | h1)
        · exact ⟨h1, Or.inl h2⟩
        · rcases h1 with ⟨-, h1, h2⟩ | h1
          · exact ⟨h1, Or.inr ⟨rfl, h2.symm⟩⟩
          · unfold own at h1
            omega
      · rintro ⟨h1, h2 | ⟨-, h2⟩⟩
        · exact Or.inl ⟨h1, h2⟩
        · exact Or.inr (Or.inl ⟨rfl, h1, h2.symm⟩)
    · rw [gi_eq (hA.1 17 r (by omega) (by omega)), hK.1 r hr2 k]
      constructor
      · rintro ⟨h1, h2⟩
        exact ⟨h1, Or.inl h2⟩
      · rintro ⟨h1, h2 | ⟨z, -⟩⟩
        · exact ⟨h1, h2⟩
        · exact absurd z e
  refine ⟨fun r hr2 k => ?_, fun cl hcl r hr2 b => ?_⟩
  · rw [gi_eq (hE.1 17 r (by omega)), e17 r hr2 k, eX r _ hr2]
  · rw [may_iff (fun r c hr => eX r c hr) cl r b]
    obtain ⟨m1, u1, c1⟩ := hE.2 cl hcl b
    constructor
    · refine u1 (fun r => may (cds H) cl r b) (fun r k hr3 hk hb hm => ?_) (fun r hr3 hb => ?_) r hr2
      · obtain ⟨q, x, q1, q2, q3, q4⟩ := hm
        exact ⟨q, x, q1, rch_step hr3 hk ((e17 r hr3 k).mp hb).2 q2, q3, q4⟩
      · by_cases e : r = rn
        · subst e
          rcases (hA.2.2.2 cl (by omega) (by omega) b).mp hb with z | z
          · exact may_mono (fun r x hr => fun z => (eA r x hr).mpr (Or.inl z)) ((hK.2 cl hcl r hr3 b).mp z)
          · rcases z with ⟨z, -⟩ | z
            · omega
            · exact ⟨r, c.toInt, hr3, rch_refl r, (eA r _ hr3).mpr (Or.inr ⟨rfl, rfl⟩), z⟩
        · have hb : bt (gi h cl r) b = true := by
            rw [← gi_eq (hA.1 cl r (by omega) (by omega))]
            exact hb
          exact may_mono (fun r x hr => fun z => (eA r x hr).mpr (Or.inl z)) ((hK.2 cl hcl r hr3 b).mp hb)
    · rintro ⟨k, x, k1, k2, k3, k4⟩
      have hk : bt (gi h' cl k) b = true := by
        refine m1 k k1 ?_
        rcases (eA k x k1).mp k3 with z | ⟨rfl, rfl⟩
        · have hb := (hK.2 cl hcl k k1 b).mpr ⟨k, x, k1, rch_refl k, z, k4⟩
          by_cases e : k = rn
          · subst e
            exact (hA.2.2.2 cl (by omega) (by omega) b).mpr (Or.inl hb)
          · rw [gi_eq (hA.1 cl k (by omega) (by omega))]
            exact hb
        · exact (hA.2.2.2 cl (by omega) (by omega) b).mpr (Or.inr (Or.inr k4))
      exact k2 (fun y => bt (gi h' cl y) b = true → bt (gi h' cl r) b = true) id (fun x y hx hy s e z => s (c1 x y hx hy ((e17 x hx y).mpr ⟨hy, e⟩) z)) hk
