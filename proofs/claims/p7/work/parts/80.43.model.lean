/-! called, actingOf, reads of the reference -/
def cdm (h : rk_S) (r : Nat) (c : Int) : Prop := ∃ i : Nat, (i : Int) < rk_iv h 317 r ∧ rk_iv h 318 (40 * r + i) = c
theorem y_40 {k j : Int32} {kn jn : Nat} (hk : k.toInt = kn) (hj : j.toInt = jn) (h1 : kn < 10) (h2 : jn < 40) : (((40 : Int32) * k) + j).toNatClampNeg = 40 * kn + jn := by
  refine y_ix ?_
  rw [Int32.toInt_add, Int32.toInt_mul, hk, hj, show (40 : Int32).toInt = 40 from rfl, rk_bm (z := 40 * (kn : Int)) (by omega) (by omega), rk_bm (by omega) (by omega)]
  omega
theorem y_sub {c : Int32} (m : Int32) {mz : Int} (hm : m.toInt = mz) (h0 : 0 ≤ mz) (h1 : 0 ≤ c.toInt) : (c - m).toInt = c.toInt - mz := by
  have := Int32.toInt_lt c
  rw [Int32.toInt_sub, hm]
  have h2 := Int32.toInt_lt m
  exact rk_bm (by omega) (by omega)
theorem y_nset {s k : Int32} {kn : Nat} (hk : k.toInt = kn) (h : kn < 32) (hc : ¬ ((s >>> (k &&& 31)) &&& (1 : Int32)).toInt = 1) : bt s kn = false := by
  cases e : bt s kn with
  | false => rfl
  | true => exact absurd ((y_bit1 (by omega) (by omega)).mpr (by rw [show k.toInt.toNat = kn by omega]; exact e)) hc
theorem y_set {s k : Int32} {kn : Nat} (hk : k.toInt = kn) (h : kn < 32) (hc : ((s >>> (k &&& 31)) &&& (1 : Int32)).toInt = 1) : bt s kn = true := by
  have := (y_bit1 (by omega) (by omega)).mp hc
  rw [show k.toInt.toNat = kn by omega] at this
  exact this
theorem bt_or0 (s : Int32) (y : Nat) : bt (s ||| (0 : Int32)) y = bt s y := by rw [bt_or, bt_zero, Bool.or_false]
def caP (h : rk_S) (N q : Nat) (s : Int32) : Prop := bt s q = true ∧ (∀ y, bt s y = true → y < N ∧ rch (cdm h) q y) ∧ ∀ k i y : Nat, k < N → bt s k = true → (i : Int) < rk_iv h 317 k → y < N → rk_iv h 318 (40 * k + i) = 400 + (y : Int) → bt s y = true
theorem cal_loop {h : rk_S} {N qn : Nat} (hG : yG h) (hN : rk_iv h 316 0 = N) (hN10 : N ≤ 10) (hlen : ∀ k, k < 10 → rk_iv h 317 k ≤ 40) : ∀ (n d : Nat) (o : Option Value × rk_S) (q s u w k j x : Int32) (kn jn : Nat), k.toInt = kn → kn < N → j.toInt = jn → jn ≤ 40 → bt s qn = true → (∀ y, bt s y = true → y < N ∧ rch (cdm h) qn y) → (∀ y, bt w y = true → bt s y = true) → (∀ k' i' y : Nat, (k' < kn ∨ (k' = kn ∧ i' < jn)) → k' < N → bt w k' = true → (i' : Int) < rk_iv h 317 k' → y < N → rk_iv h 318 (40 * k' + i') = 400 + (y : Int) → bt s y = true) → rk_ex n d rm_X8_called 28 [(0, .ref 316), (1, .int q), (2, .int s), (3, .int u), (4, .int w), (5, .int k), (6, .int j), (7, .int x)] [] h = some o → ∃ s', o = (some (.int s'), h) ∧ caP h N qn s' := by
  intro n
  induction n using Nat.strongRecOn with
  | ind n ih =>
    intro d o q s u w k j x kn jn hk hkN hj hj4 hq hr hw hp E
    have ek := y_ix hk
    have hk1 := y_inc hk (by omega)
    have hj1 := y_inc hj (by omega)
    have A := yt_cal hG E
    simp only [ek, gi_iv, hN] at A
    have fin : (rk_iv h 317 kn ≤ jn ∨ bt s kn = false) → N ≤ kn + 1 → s.toInt = w.toInt → caP h N qn s := by
      intro hb hN1 e
      have e := Int32.toInt_inj.mp e
      refine ⟨hq, hr, fun k' i' y h1 h2 h3 h4 h5 => ?_⟩
      by_cases e2 : k' = kn
      · subst e2
        rcases hb with hb | hb
        · exact hp k' i' y (Or.inr ⟨rfl, by omega⟩) h1 (by rw [← e]; exact h2) h3 h4 h5
        · rw [hb] at h2
          cases h2
      · exact hp k' i' y (Or.inl (by omega)) h1 (by rw [← e]; exact h2) h3 h4 h5
    have nxt : (rk_iv h 317 kn ≤ jn ∨ bt s kn = false) → ∀ k' i' y : Nat, (k' < kn + 1 ∨ (k' = kn + 1 ∧ i' < 0)) → k' < N → bt w k' = true → (i' : Int) < rk_iv h 317 k' → y < N → rk_iv h 318 (40 * k' + i') = 400 + (y : Int) → bt s y = true := by
      intro hb k' i' y h0 h1 h2 h3 h4 h5
      by_cases e2 : k' = kn
      · subst e2
        rcases hb with hb | hb
        · exact hp k' i' y (Or.inr ⟨rfl, by omega⟩) h1 h2 h3 h4 h5
        · rw [hw k' h2] at hb
          cases hb
      · exact hp k' i' y (Or.inl (by omega)) h1 h2 h3 h4 h5
    have rnd : ∀ k' i' y : Nat, (k' < 0 ∨ (k' = 0 ∧ i' < 0)) → k' < N → bt s k' = true → (i' : Int) < rk_iv h 317 k' → y < N → rk_iv h 318 (40 * k' + i') = 400 + (y : Int) → bt s y = true := by
      intro k' i' y h0
      omega
    rcases A with ⟨c1, c2, c3, -, rfl⟩ | ⟨c1, c2, c3, c4, -, -⟩ | ⟨c1, c2, c3, c4, m, hm, -, E'⟩ | ⟨c1, c2, m, hm, -, E'⟩ | ⟨c1, c2, c3, c4, -, rfl⟩ | ⟨c1, c2, c3, c4, c5, -, -⟩ | ⟨c1, c2, c3, c4, c5, m, hm, -, E'⟩ | ⟨c1, c2, c3, m, hm, -, E'⟩ | ⟨c1, c2, c3, m, hm, -, E'⟩ | ⟨c1, c2, c3, c4, m, hm, -, E'⟩ | ⟨c1, c2, c3, c4, m, hm, -, E'⟩
    · exact ⟨s, rfl, fin (Or.inl (by omega)) (by omega) c3⟩
    · omega
    · exact ih m hm d o q s 1 s 0 0 x 0 0 rfl (by omega) rfl (by omega) hq hr (fun _ z => z) rnd E'
    · exact ih m hm d o q s u w (k + 1) 0 x (kn + 1) 0 hk1 (by omega) rfl (by omega) hq hr hw (nxt (Or.inl (by omega))) E'
    · exact ⟨s, rfl, fin (Or.inr (y_nset hk (by omega) c2)) (by omega) c4⟩
    · omega
    · exact ih m hm d o q s 1 s 0 0 x 0 0 rfl (by omega) rfl (by omega) hq hr (fun _ z => z) rnd E'
    · exact ih m hm d o q s u w (k + 1) 0 x (kn + 1) 0 hk1 (by omega) rfl (by omega) hq hr hw (nxt (Or.inr (y_nset hk (by omega) c2))) E'
    · have hl := hlen kn (by omega)
      have ei := y_40 hk hj (by omega) (by omega)
      rw [ei] at c3
      refine ih m hm d o q _ u w k (j + 1) _ kn (jn + 1) hk hkN hj1 (by omega) (by rw [bt_or0]; exact hq) (fun y hy => hr y (by rw [bt_or0] at hy; exact hy)) (fun y hy => by rw [bt_or0]; exact hw y hy) (fun k' i' y h0 h1 h2 h3 h4 h5 => ?_) E'
      rw [bt_or0]
      by_cases e : k' = kn ∧ i' = jn
      · obtain ⟨rfl, rfl⟩ := e
        omega
      · exact hp k' i' y (by omega) h1 h2 h3 h4 h5
    · have hl := hlen kn (by omega)
      have ei := y_40 hk hj (by omega) (by omega)
      rw [ei, Int32.toInt_add, gi_iv, hN, show (399 : Int32).toInt = 399 from rfl, rk_bm (by omega) (by omega)] at c4
      refine ih m hm d o q _ u w k (j + 1) _ kn (jn + 1) hk hkN hj1 (by omega) (by rw [bt_or0]; exact hq) (fun y hy => hr y (by rw [bt_or0] at hy; exact hy)) (fun y hy => by rw [bt_or0]; exact hw y hy) (fun k' i' y h0 h1 h2 h3 h4 h5 => ?_) E'
      rw [bt_or0]
      by_cases e : k' = kn ∧ i' = jn
      · obtain ⟨rfl, rfl⟩ := e
        omega
      · exact hp k' i' y (by omega) h1 h2 h3 h4 h5
    · have hl := hlen kn (by omega)
      have ei := y_40 hk hj (by omega) (by omega)
      rw [ei] at c3 E'
      rw [ei, Int32.toInt_add, gi_iv, hN, show (399 : Int32).toInt = 399 from rfl, rk_bm (by omega) (by omega)] at c4
      have es : (gi h 318 (40 * kn + jn) - (400 : Int32)).toInt = rk_iv h 318 (40 * kn + jn) - 400 := by
        rw [y_sub (400 : Int32) (mz := 400) rfl (by omega) (by rw [gi_iv]; omega), gi_iv]
      have hb : ∀ y, bt (s ||| ((1 : Int32) <<< ((gi h 318 (40 * kn + jn) - (400 : Int32)) &&& 31))) y = true ↔ (bt s y = true ∨ rk_iv h 318 (40 * kn + jn) = 400 + (y : Int)) := by
        intro y
        rw [bt_or, Bool.or_eq_true, bt_shl (by rw [es]; omega) (by rw [es]; omega), es, decide_eq_true_eq]
        constructor
        · rintro (z | z)
          · exact Or.inl z
          · exact Or.inr (by omega)
        · rintro (z | z)
          · exact Or.inl z
          · exact Or.inr (by omega)
      have hsk := y_set hk (by omega) c2
      refine ih m hm d o q _ u w k (j + 1) _ kn (jn + 1) hk hkN hj1 (by omega) ((hb qn).mpr (Or.inl hq)) (fun y hy => ?_) (fun y hy => (hb y).mpr (Or.inl (hw y hy))) (fun k' i' y h0 h1 h2 h3 h4 h5 => ?_) E'
      · rcases (hb y).mp hy with z | z
        · exact hr y z
        · refine ⟨by omega, fun S a b => b kn y (by omega) (by omega) ((hr kn hsk).2 S a b) ⟨jn, by omega, z⟩⟩
      · refine (hb y).mpr ?_
        by_cases e : k' = kn ∧ i' = jn
        · obtain ⟨rfl, rfl⟩ := e
          exact Or.inr h5
        · exact Or.inl (hp k' i' y (by omega) h1 h2 h3 h4 h5)
theorem ca_ok {n d : Nat} {h : rk_S} {o : Option Value × rk_S} {q : Int32} {N qn : Nat} (hG : yG h) (hN : rk_iv h 316 0 = N) (hN10 : N ≤ 10) (hlen : ∀ k, k < 10 → rk_iv h 317 k ≤ 40) (hq : q.toInt = qn) (hqN : qn < N) (E : rk_ex n d rm_X8_called 0 [(0, .ref 316), (1, .int q)] [] h = some o) : ∃ s, o = (some (.int s), h) ∧ caP h N qn s := by
  have hb : ∀ y, bt ((1 : Int32) <<< (q &&& 31)) y = true ↔ y = qn := by
    intro y
    rw [bt_shl (by omega) (by omega), decide_eq_true_eq]
    omega
  rcases yt_cal0 hG E with ⟨c1, -⟩ | ⟨c1, m, hm, -, E'⟩
  · rw [gi_iv] at c1; omega
  · exact cal_loop hG hN hN10 hlen m d o q _ 1 _ 0 0 0 0 0 rfl (by omega) rfl (by omega) ((hb qn).mpr rfl) (fun y hy => by rw [(hb y).mp hy]; exact ⟨hqN, rch_refl qn⟩) (fun _ z => z) (fun k' i' y h0 => by omega) E'
/-! what is gathered over a set -/
def acA (h : rk_S) (N : Nat) (s : Int32) (cl kn jn b : Nat) : Prop := ∃ k' i' : Nat, (k' < kn ∨ (k' = kn ∧ i' < jn)) ∧ k' < N ∧ bt s k' = true ∧ (i' : Int) < rk_iv h 317 k' ∧ own cl b (rk_iv h 318 (40 * k' + i'))
theorem acA_next {h : rk_S} {N : Nat} {s : Int32} {cl kn jn b : Nat} (hj : rk_iv h 317 kn ≤ jn ∨ bt s kn = false) : acA h N s cl kn jn b ↔ acA h N s cl (kn + 1) 0 b := by
  constructor
  · rintro ⟨k', i', h0, h1, h2, h3, h4⟩
    exact ⟨k', i', Or.inl (by omega), h1, h2, h3, h4⟩
  · rintro ⟨k', i', h0, h1, h2, h3, h4⟩
    refine ⟨k', i', ?_, h1, h2, h3, h4⟩
    by_cases e : k' = kn
    · subst e
      rcases hj with hj | hj
      · exact Or.inr ⟨rfl, by omega⟩
      · rw [hj] at h2
        cases h2
    · exact Or.inl (by omega)
theorem acA_step {h : rk_S} {N : Nat} {s : Int32} {cl kn jn b : Nat} (hk : kn < N) (hb : bt s kn = true) (hj : (jn : Int) < rk_iv h 317 kn) : acA h N s cl kn (jn + 1) b ↔ (acA h N s cl kn jn b ∨ own cl b (rk_iv h 318 (40 * kn + jn))) := by
  constructor
  · rintro ⟨k', i', h0, h1, h2, h3, h4⟩
    by_cases e : k' = kn ∧ i' = jn
    · obtain ⟨rfl, rfl⟩ := e
      exact Or.inr h4
    · exact Or.inl ⟨k', i', by omega, h1, h2, h3, h4⟩
  · rintro (⟨k', i', h0, h1, h2, h3, h4⟩ | h4)
    · exact ⟨k', i', by omega, h1, h2, h3, h4⟩
    · exact ⟨kn, jn, Or.inr ⟨rfl, by omega⟩, hk, hb, hj, h4⟩
theorem acA_may {h : rk_S} {N q : Nat} {s : Int32} {cl kn b : Nat} (hN10 : N ≤ 10) (hz : ∀ r, r < 10 → N ≤ r → rk_iv h 317 r = 0) (hk : N ≤ kn) (hs : caP h N q s) : acA h N s cl kn 0 b ↔ may (cdm h) cl q b := by
  constructor
  · rintro ⟨k', i', h0, h1, h2, h3, h4⟩
    exact ⟨k', _, by omega, (hs.2.1 k' h2).2, ⟨i', h3, rfl⟩, h4⟩
  · rintro ⟨k, c, k1, k2, ⟨i, i1, i2⟩, k4⟩
    have hkN : k < N := Classical.byContradiction (fun z => by
      rw [hz k k1 (by omega)] at i1
      omega)
    have := k2 (fun y => y < N → bt s y = true) (fun _ => hs.1) (fun x y hx hy hS e hyN => by
      obtain ⟨i', e1, e2⟩ := e
      have hxN : x < N := Classical.byContradiction (fun z => by
        rw [hz x hx (by omega)] at e1
        omega)
      exact hs.2.2 x i' y hxN (hS hxN) e1 hyN e2)
    exact ⟨k, i, Or.inl (by omega), hkN, this hkN, i1, by rw [i2]; exact k4⟩
theorem mac_loop {h : rk_S} {N : Nat} {s : Int32} (hG : yG h) (hN : rk_iv h 316 0 = N) (hN10 : N ≤ 10) (hlen : ∀ k, k < 10 → rk_iv h 317 k ≤ 40) : ∀ (n d : Nat) (o : Option Value × rk_S) (q u k j x : Int32) (kn jn : Nat), k.toInt = kn → kn < N → j.toInt = jn → jn ≤ 40 → (∀ b, bt u b = true ↔ acA h N s 15 kn jn b) → rk_ex n d rm_X8_actingOf 23 [(0, .ref 316), (1, .int q), (2, .int s), (3, .int u), (4, .int k), (5, .int j), (6, .int x)] [] h = some o → ∃ u', o = (some (.int u'), h) ∧ ∃ k', N ≤ k' ∧ ∀ b, bt u' b = true ↔ acA h N s 15 k' 0 b := by
  intro n
  induction n using Nat.strongRecOn with
  | ind n ih =>
    intro d o q u k j x kn jn hk hkN hj hj4 hu E
    have ek := y_ix hk
    have hk1 := y_inc hk (by omega)
    have hj1 := y_inc hj (by omega)
    have A := yt_mac hG E
    simp only [ek, gi_iv, hN] at A
    have fin : (rk_iv h 317 kn ≤ jn ∨ bt s kn = false) → N ≤ kn + 1 → ∃ k', N ≤ k' ∧ ∀ b, bt u b = true ↔ acA h N s 15 k' 0 b := fun hb hN1 => ⟨kn + 1, hN1, fun b => (hu b).trans (acA_next hb)⟩
    have stp : ∀ (v : Int32), bt s kn = true → (jn : Int) < rk_iv h 317 kn → (∀ b, bt v b = true ↔ own 15 b (rk_iv h 318 (40 * kn + jn))) → ∀ b, bt (u ||| v) b = true ↔ acA h N s 15 kn (jn + 1) b := by
      intro v h1 h2 h3 b
      rw [bt_or, Bool.or_eq_true, acA_step hkN h1 h2, hu b, h3 b]
    have hl := hlen kn (by omega)
    rcases A with ⟨c1, c2, -, rfl⟩ | ⟨c1, c2, m, hm, -, E'⟩ | ⟨c1, c2, c3, -, rfl⟩ | ⟨c1, c2, c3, m, hm, -, E'⟩ | ⟨c1, c2, c3, c4, m, hm, -, E'⟩ | ⟨c1, c2, c3, c4, m, hm, -, E'⟩ | ⟨c1, c2, c3, c4, c5, m, hm, -, E'⟩ | ⟨c1, c2, c3, c4, c5, m, hm, -, E'⟩ | ⟨c1, c2, c3, c4, m, hm, -, E'⟩
    · exact ⟨u, rfl, fin (Or.inl (by omega)) (by omega)⟩
    · exact ih m hm d o q u (k + 1) 0 x (kn + 1) 0 hk1 (by omega) rfl (by omega) (fun b => (hu b).trans (acA_next (Or.inl (by omega)))) E'
    · exact ⟨u, rfl, fin (Or.inr (y_nset hk (by omega) c2)) (by omega)⟩
    · exact ih m hm d o q u (k + 1) 0 x (kn + 1) 0 hk1 (by omega) rfl (by omega) (fun b => (hu b).trans (acA_next (Or.inr (y_nset hk (by omega) c2)))) E'
    · rw [y_40 hk hj (by omega) (by omega)] at c3 c4
      refine ih m hm d o q _ k (j + 1) _ kn (jn + 1) hk hkN hj1 (by omega) (stp _ (y_set hk (by omega) c2) (by omega) (fun b => ?_)) E'
      rw [bt_zero]
      unfold own
      constructor
      · intro z; cases z
      · intro z; omega
    · omega
    · rw [y_40 hk hj (by omega) (by omega)] at c3 c4 c5
      refine ih m hm d o q _ k (j + 1) _ kn (jn + 1) hk hkN hj1 (by omega) (stp _ (y_set hk (by omega) c2) (by omega) (fun b => ?_)) E'
      rw [bt_zero]
      unfold own
      constructor
      · intro z; cases z
      · intro z; omega
    · rw [y_40 hk hj (by omega) (by omega)] at c3 c4 c5
      refine ih m hm d o q _ k (j + 1) _ kn (jn + 1) hk hkN hj1 (by omega) (stp _ (y_set hk (by omega) c2) (by omega) (fun b => ?_)) E'
      rw [bt_two, decide_eq_true_eq]
      unfold own
      omega
    · rw [y_40 hk hj (by omega) (by omega)] at c3 c4
      refine ih m hm d o q _ k (j + 1) _ kn (jn + 1) hk hkN hj1 (by omega) (stp _ (y_set hk (by omega) c2) (by omega) (fun b => ?_)) E'
      rw [bt_one, decide_eq_true_eq]
      unfold own
      omega
theorem mre_loop {h : rk_S} {N : Nat} {s : Int32} (hG : yG h) (hN : rk_iv h 316 0 = N) (hN10 : N ≤ 10) (hlen : ∀ k, k < 10 → rk_iv h 317 k ≤ 40) : ∀ (n d : Nat) (o : Option Value × rk_S) (q u k j x : Int32) (kn jn : Nat), k.toInt = kn → kn < N → j.toInt = jn → jn ≤ 40 → (∀ b, bt u b = true ↔ acA h N s 16 kn jn b) → rk_ex n d rm_X8_reads 33 [(0, .ref 316), (1, .int q), (2, .int s), (3, .int u), (4, .int k), (5, .int j), (6, .int x)] [] h = some o → ∃ u', o = (some (.int u'), h) ∧ ∃ k', N ≤ k' ∧ ∀ b, bt u' b = true ↔ acA h N s 16 k' 0 b := by
  intro n
  induction n using Nat.strongRecOn with
  | ind n ih =>
    intro d o q u k j x kn jn hk hkN hj hj4 hu E
    have ek := y_ix hk
    have hk1 := y_inc hk (by omega)
    have hj1 := y_inc hj (by omega)
    have A := yt_mre hG E
    simp only [ek, gi_iv, hN] at A
    have fin : (rk_iv h 317 kn ≤ jn ∨ bt s kn = false) → N ≤ kn + 1 → ∃ k', N ≤ k' ∧ ∀ b, bt u b = true ↔ acA h N s 16 k' 0 b := fun hb hN1 => ⟨kn + 1, hN1, fun b => (hu b).trans (acA_next hb)⟩
    have stp : ∀ (v : Int32), bt s kn = true → (jn : Int) < rk_iv h 317 kn → (∀ b, bt v b = true ↔ own 16 b (rk_iv h 318 (40 * kn + jn))) → ∀ b, bt (u ||| v) b = true ↔ acA h N s 16 kn (jn + 1) b := by
      intro v h1 h2 h3 b
      rw [bt_or, Bool.or_eq_true, acA_step hkN h1 h2, hu b, h3 b]
    have hl := hlen kn (by omega)
    rcases A with ⟨c1, c2, -, rfl⟩ | ⟨c1, c2, m, hm, -, E'⟩ | ⟨c1, c2, c3, -, rfl⟩ | ⟨c1, c2, c3, m, hm, -, E'⟩ | ⟨c1, c2, c3, m, hm, -, E'⟩ | ⟨c1, c2, c3, c4, m, hm, -, E'⟩ | ⟨c1, c2, c3, c4, m, hm, -, E'⟩
    · exact ⟨u, rfl, fin (Or.inl (by omega)) (by omega)⟩
    · exact ih m hm d o q u (k + 1) 0 x (kn + 1) 0 hk1 (by omega) rfl (by omega) (fun b => (hu b).trans (acA_next (Or.inl (by omega)))) E'
    · exact ⟨u, rfl, fin (Or.inr (y_nset hk (by omega) c2)) (by omega)⟩
    · exact ih m hm d o q u (k + 1) 0 x (kn + 1) 0 hk1 (by omega) rfl (by omega) (fun b => (hu b).trans (acA_next (Or.inr (y_nset hk (by omega) c2)))) E'
    · rw [y_40 hk hj (by omega) (by omega)] at c3
      refine ih m hm d o q _ k (j + 1) _ kn (jn + 1) hk hkN hj1 (by omega) (stp _ (y_set hk (by omega) c2) (by omega) (fun b => ?_)) E'
      rw [bt_zero]
      unfold own
      constructor
      · intro z; cases z
      · intro z; omega
    · rw [y_40 hk hj (by omega) (by omega)] at c3 c4
      refine ih m hm d o q _ k (j + 1) _ kn (jn + 1) hk hkN hj1 (by omega) (stp _ (y_set hk (by omega) c2) (by omega) (fun b => ?_)) E'
      rw [bt_zero]
      unfold own
      constructor
      · intro z; cases z
      · intro z; omega
    · have ei := y_40 hk hj (by omega) (by omega)
      rw [ei] at c3 c4 E'
      have es : (gi h 318 (40 * kn + jn) - (200 : Int32)).toInt = rk_iv h 318 (40 * kn + jn) - 200 := by
        rw [y_sub (200 : Int32) (mz := 200) rfl (by omega) (by rw [gi_iv]; omega), gi_iv]
      refine ih m hm d o q _ k (j + 1) _ kn (jn + 1) hk hkN hj1 (by omega) (stp _ (y_set hk (by omega) c2) (by omega) (fun b => ?_)) E'
      rw [bt_shl (by rw [es]; omega) (by rw [es]; omega), es, decide_eq_true_eq]
      unfold own
      omega
theorem mac_ok {n d : Nat} {h : rk_S} {o : Option Value × rk_S} {q : Int32} {N qn : Nat} (hG : yG h) (hN : rk_iv h 316 0 = N) (hN10 : N ≤ 10) (hlen : ∀ k, k < 10 → rk_iv h 317 k ≤ 40) (hz : ∀ r, r < 10 → N ≤ r → rk_iv h 317 r = 0) (hq : q.toInt = qn) (hqN : qn < N) (E : rk_ex n d rm_X8_actingOf 0 [(0, .ref 316), (1, .int q)] [] h = some o) : ∃ u, o = (some (.int u), h) ∧ ∀ b, bt u b = true ↔ may (cdm h) 15 qn b := by
  obtain ⟨m, hm, -, E'⟩ := yt_mac1 hG E
  obtain ⟨m1, d1, o1, hm1, E1, E2⟩ := E_call (ar := ([.ref 316, .int q], [])) rfl rfl rfl rfl rfl rfl E'
  replace E1 : rk_ex m1 d1 rm_X8_called 0 [(0, .ref 316), (1, .int q)] [] h = some o1 := E1
  obtain ⟨s, rfl, hs⟩ := ca_ok hG hN hN10 hlen hq hqN E1
  replace E2 : rk_ex m1 d rm_X8_actingOf 5 [(0, .ref 316), (1, .int q)] [.int s] h = some o := E2
  rcases yt_mac0 hG E2 with ⟨c1, -⟩ | ⟨c1, m2, hm2, -, E3⟩
  · rw [gi_iv] at c1; omega
  · obtain ⟨u, rfl, k', hk', hu⟩ := mac_loop hG hN hN10 hlen m2 d o q 0 0 0 0 0 0 rfl (by omega) rfl (by omega) (fun b => by
      rw [bt_zero]
      constructor
      · intro z; cases z
      · rintro ⟨k', i', h0, -⟩; omega) E3
    exact ⟨u, rfl, fun b => (hu b).trans (acA_may hN10 hz hk' hs)⟩
