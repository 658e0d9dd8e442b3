/-! instructions over a heap of which the typing alone is known -/
def rk_any : rk_ST := .inl [(-2147483648, 2147483647)]
theorem rk_okI {b : List (Int × Int)} {v : Value} (h : rk_okv (.inl b) v) : ∃ x : Int32, v = .int x ∧ ∃ c ∈ b, c.1 ≤ x.toInt ∧ x.toInt ≤ c.2 := by
  cases v <;> first | exact ⟨_, rfl, h⟩ | exact absurd h id
theorem rk_okR {l : List Nat} {v : Value} (h : rk_okv (.inr l) v) : ∃ a, v = .ref a ∧ a ∈ l := by
  cases v <;> first | exact ⟨_, rfl, h⟩ | exact absurd h id
theorem rk_ok_any (x : Int32) : rk_okv rk_any (.int x) := ⟨(-2147483648, 2147483647), List.mem_cons_self, by have := Int32.le_toInt x; dsimp only; omega, by have := Int32.toInt_lt x; dsimp only; omega⟩
theorem rk_ok_one {lo hi : Int} {x : Int32} (h1 : lo ≤ x.toInt) (h2 : x.toInt ≤ hi) : rk_okv (.inl [(lo, hi)]) (.int x) := ⟨(lo, hi), List.mem_cons_self, h1, h2⟩
theorem rk_one {lo hi : Int} {x : Int32} (h : ∃ c ∈ [(lo, hi)], c.1 ≤ x.toInt ∧ x.toInt ≤ c.2) : lo ≤ x.toInt ∧ x.toInt ≤ hi := by
  obtain ⟨c, h1, h2⟩ := h
  rw [List.mem_singleton.mp h1] at h2
  exact h2
/-- only the cells of P have changed -/
def rk_Fr (P : Nat → Prop) (h h' : rk_S) : Prop := ∀ b k, ¬ P b → rk_get h' b k = rk_get h b k
theorem rk_Fr.refl {P : Nat → Prop} (h : rk_S) : rk_Fr P h h := fun _ _ _ => rfl
theorem rk_Fr.trans {P P' : Nat → Prop} {a b c : rk_S} (h1 : rk_Fr P a b) (h2 : rk_Fr P' b c) (hs : ∀ x, P' x → P x) : rk_Fr P a c := fun x k hx => (h2 x k (fun z => hx (hs x z))).trans (h1 x k hx)
theorem rk_Fr.put {P : Nat → Prop} {h h' : rk_S} {a k : Nat} {v : Value} (h1 : rk_Fr P h h') (ha : P a) : rk_Fr P h (rk_pt h' a k v) := fun b j hb => (rk_get_ne (a := a) (a' := b) (Or.inl (fun e => hb (by rw [← e]; exact ha)))).trans (h1 b j hb)
section RKT
variable {d d' : Nat} {M M' : rk_M} {pc : Nat} {lv : rk_L} {st r : List Value} {h : rk_S} {Q Q' : Option Value → rk_S → Prop} {ts : List rk_ST} {k0 n : Nat}
theorem wp_gI {x len a : Nat} {f : Nat × Nat × Nat × Bool × Bool} {b : List (Int × Int)} (hI : rk_Iv rk_Y h) (hT : rk_Y a = some (k0, n, rk_slot ts)) (hix : rk_find M.2.2.2.2.2 pc = some (.getfield x, len)) (hf : rk_find (rk_fl M.2.2.2.2.1) x = some f) (hk : k0 = f.1) (hn : f.2.1 < n) (hs : rk_slot ts f.2.1 = .inl b)
    (kk : ∀ y : Int32, (∃ c ∈ b, c.1 ≤ y.toInt ∧ y.toInt ≤ c.2) → rk_get h a f.2.1 = some (.int y) → rk_wp d M (pc + 3) lv (.int y :: r) h Q) : rk_wp d M pc lv (.ref a :: r) h Q := by
  obtain ⟨v, vs, g1, g2, g3, g4, g5⟩ := hI.get hT hn
  dsimp only at g5 g1
  rw [hs] at g5
  obtain ⟨y, rfl, g6⟩ := rk_okI g5
  exact wp_gf hix hf g1 hk g4 (kk y g6 g4)
theorem wp_gK {x len a : Nat} {f : Nat × Nat × Nat × Bool × Bool} {v : Value} (hI : rk_Iv rk_Y h) (hT : rk_Y a = some (k0, n, rk_slot ts)) (hix : rk_find M.2.2.2.2.2 pc = some (.getfield x, len)) (hf : rk_find (rk_fl M.2.2.2.2.1) x = some f) (hk : k0 = f.1) (hg : rk_get h a f.2.1 = some v) (kk : rk_wp d M (pc + 3) lv (v :: r) h Q) : rk_wp d M pc lv (.ref a :: r) h Q := by
  obtain ⟨vs, g1, g2, g3⟩ := hI a _ hT
  exact wp_gf hix hf g1 hk hg kk
theorem wp_gR {x len a b : Nat} {f : Nat × Nat × Nat × Bool × Bool} (hI : rk_Iv rk_Y h) (hT : rk_Y a = some (k0, n, rk_slot ts)) (hix : rk_find M.2.2.2.2.2 pc = some (.getfield x, len)) (hf : rk_find (rk_fl M.2.2.2.2.1) x = some f) (hk : k0 = f.1) (hn : f.2.1 < n) (hs : rk_slot ts f.2.1 = .inr [b])
    (kk : rk_wp d M (pc + 3) lv (.ref b :: r) h Q) : rk_wp d M pc lv (.ref a :: r) h Q := by
  obtain ⟨v, vs, g1, g2, g3, g4, g5⟩ := hI.get hT hn
  dsimp only at g5 g1
  rw [hs] at g5
  obtain ⟨y, rfl, g6⟩ := rk_okR g5
  cases List.mem_singleton.mp g6
  exact wp_gf hix hf g1 hk g4 kk
theorem wp_pI {x len a : Nat} {f : Nat × Nat × Nat × Bool × Bool} {v : Value} (hI : rk_Iv rk_Y h) (hT : rk_Y a = some (k0, n, rk_slot ts)) (ha : 0 < a) (hix : rk_find M.2.2.2.2.2 pc = some (.putfield x, len)) (hf : rk_find (rk_fl M.2.2.2.2.1) x = some f) (hk : k0 = f.1) (hn : f.2.1 < n) (hv : rk_okv (rk_slot ts f.2.1) v) (hfit : rk_fit f.2.2.1 v = true) (hfin : f.2.2.2.1 = false)
    (kk : ∀ h' : rk_S, h' = rk_pt h a f.2.1 v → rk_Iv rk_Y h' → rk_get h' a f.2.1 = some v → rk_wp d M (pc + 3) lv r h' Q) : rk_wp d M pc lv (v :: .ref a :: r) h Q := by
  obtain ⟨w, vs, g1, g2, g3, g4, g5⟩ := hI.get hT hn
  exact wp_pf hix hf g1 hk ha (by dsimp only at g2 ⊢; omega) hfit hfin (kk _ rfl (hI.put hT hn hv) (rk_get_self g4))
theorem rk_clamp {j : Int32} (h : 0 ≤ j.toInt) : (j.toNatClampNeg : Int) = j.toInt := by
  have : j.toNatClampNeg = j.toInt.toNat := rfl
  omega
theorem wp_iaI {len a : Nat} {j : Int32} {b : List (Int × Int)} (hI : rk_Iv rk_Y h) (hT : rk_Y a = some (9, n, rk_slot ts)) (hix : rk_find M.2.2.2.2.2 pc = some (.iaload, len)) (hj : 0 ≤ j.toInt) (hn : j.toInt < n) (hs : rk_slot ts j.toNatClampNeg = .inl b)
    (kk : ∀ y : Int32, (∃ c ∈ b, c.1 ≤ y.toInt ∧ y.toInt ≤ c.2) → rk_get h a j.toNatClampNeg = some (.int y) → rk_wp d M (pc + 1) lv (.int y :: r) h Q) : rk_wp d M pc lv (.int j :: .ref a :: r) h Q := by
  have hc := rk_clamp hj
  obtain ⟨v, vs, g1, g2, g3, g4, g5⟩ := hI.get (k := j.toNatClampNeg) hT (by dsimp only; omega)
  dsimp only at g5 g1
  rw [hs] at g5
  obtain ⟨y, rfl, g6⟩ := rk_okI g5
  exact wp_ia hix g1 rfl hj g4 (kk y g6 g4)
theorem wp_iasI {len a : Nat} {j x : Int32} (hI : rk_Iv rk_Y h) (hT : rk_Y a = some (9, n, rk_slot ts)) (ha : 0 < a) (hix : rk_find M.2.2.2.2.2 pc = some (.iastore, len)) (hj : 0 ≤ j.toInt) (hn : j.toInt < n) (hv : rk_okv (rk_slot ts j.toNatClampNeg) (.int x))
    (kk : ∀ h' : rk_S, h' = rk_pt h a j.toNatClampNeg (.int x) → rk_Iv rk_Y h' → rk_get h' a j.toNatClampNeg = some (.int x) → rk_wp d M (pc + 1) lv r h' Q) : rk_wp d M pc lv (.int x :: .int j :: .ref a :: r) h Q := by
  have hc := rk_clamp hj
  obtain ⟨w, vs, g1, g2, g3, g4, g5⟩ := hI.get (k := j.toNatClampNeg) hT (by dsimp only; omega)
  exact wp_ias hix g1 rfl ha hj (by dsimp only at g2 ⊢; omega) (kk _ rfl (hI.put hT (by dsimp only; omega) hv) (rk_get_self g4))
/-- aaload: one of some cells -/
theorem wp_aaI {len a : Nat} {j : Int32} {l : List Nat} (hI : rk_Iv rk_Y h) (hT : rk_Y a = some (k0, n, rk_slot ts)) (hk : k0 = 11 ∨ k0 = 12 ∨ k0 = 13) (hix : rk_find M.2.2.2.2.2 pc = some (.aaload, len)) (hj : 0 ≤ j.toInt) (hn : j.toInt < n) (hs : rk_slot ts j.toNatClampNeg = .inr l)
    (kk : ∀ b : Nat, b ∈ l → rk_get h a j.toNatClampNeg = some (.ref b) → rk_wp d M (pc + 1) lv (.ref b :: r) h Q) : rk_wp d M pc lv (.int j :: .ref a :: r) h Q := by
  have hc := rk_clamp hj
  obtain ⟨v, vs, g1, g2, g3, g4, g5⟩ := hI.get (k := j.toNatClampNeg) hT (by dsimp only; omega)
  dsimp only at g5 g1
  rw [hs] at g5
  obtain ⟨y, rfl, g6⟩ := rk_okR g5
  exact wp_aa hix g1 hk hj g4 (kk y g6 g4)
end RKT
/-- a is a Frame: its numbers behind it, its row behind them -/
def isF (a : Nat) : Prop := 0 < a ∧ rk_Y a = some (0, 7, rk_slot [.inr [a + 1], .inr [a + 2], rk_any, rk_any, rk_any, rk_any, rk_any]) ∧ rk_Y (a + 1) = some (9, 3, rk_slot [rk_any]) ∧ rk_Y (a + 2) = some (9, 20, rk_slot [rk_any])
/-- a is a Keepsake -/
def isK (a : Nat) : Prop := 0 < a ∧ rk_Y a = some (1, 11, rk_slot [.inr [a + 1], .inr [a + 2], rk_any, rk_any, rk_any, rk_any, rk_any, rk_any, rk_any, rk_any, rk_any]) ∧ rk_Y (a + 1) = some (9, 3, rk_slot [rk_any]) ∧ rk_Y (a + 2) = some (9, 16, rk_slot [rk_any])
set_option maxRecDepth 100000 in
set_option maxHeartbeats 4000000 in
/-- Frame.put: nothing but the row and its size -/
theorem ct_X0_put {d a : Nat} {h : rk_S} (F : isF a) (hI : rk_Iv rk_Y h) (x : Int32) : rk_wp d rm_X0_put 0 [(0, .ref a), (1, .int x)] [] h (fun v h' => (∃ y, v = some (.int y)) ∧ rk_Iv rk_Y h' ∧ rk_Fr (fun b => b = a ∨ b = a + 2) h h') := by
  obtain ⟨ha, hT0, hT1, hT2⟩ := F
  refine wp_go (pc' := 1) (lv' := [(0, .ref a), (1, .int x)]) (st' := [.ref a]) (h' := h) 1 rfl ?_
  refine wp_gI hI hT0 rfl rfl rfl (by decide) rfl (fun y1 b1 g1 => ?_)
  refine wp_if1 (tg := 16) rfl rfl (fun c1 => ?_) (fun c1 => ?_)
  · refine wp_go (pc' := 17) (lv' := [(0, .ref a), (1, .int x)]) (st' := [.int (Int32.ofInt 2)]) (h' := h) 1 rfl ?_
    exact wp_ret rfl rfl ⟨⟨_, rfl⟩, hI, rk_Fr.refl h⟩
  · refine wp_go (pc' := 8) (lv' := [(0, .ref a), (1, .int x)]) (st' := [.ref a]) (h' := h) 1 rfl ?_
    refine wp_gK hI hT0 rfl rfl rfl g1 ?_
    refine wp_go (pc' := 13) (lv' := [(0, .ref a), (1, .int x)]) (st' := [.int (Int8.ofInt 20).toInt32, .int y1]) (h' := h) 1 rfl ?_
    refine wp_if2 (tg := 18) rfl rfl (fun c2 => ?_) (fun c2 => ?_)
    · refine wp_go (pc' := 19) (lv' := [(0, .ref a), (1, .int x)]) (st' := [.ref a]) (h' := h) 1 rfl ?_
      refine wp_gR hI hT0 rfl rfl rfl (by decide) rfl ?_
      refine wp_go (pc' := 23) (lv' := [(0, .ref a), (1, .int x)]) (st' := [.ref a, .ref (a + 2)]) (h' := h) 1 rfl ?_
      refine wp_gK hI hT0 rfl rfl rfl g1 ?_
      refine wp_go (pc' := 27) (lv' := [(0, .ref a), (1, .int x)]) (st' := [.int x, .int y1, .ref (a + 2)]) (h' := h) 1 rfl ?_
      have q1 : 0 ≤ y1.toInt := by have := of_decide_eq_false (p := y1.toInt < 0) c1; omega
      have q2 : y1.toInt < 20 := of_decide_eq_true (p := y1.toInt < 20) c2
      refine wp_iasI hI hT2 (by omega) rfl q1 q2 (rk_ok_any x) (fun h2 e2 hI2 g2 => ?_)
      have f2 : rk_Fr (fun b => b = a ∨ b = a + 2) h h2 := by rw [e2]; exact (rk_Fr.refl h).put (Or.inr rfl)
      have g3 : rk_get h2 a 2 = some (.int y1) := by rw [e2]; exact (rk_get_ne (Or.inl (by omega))).trans g1
      refine wp_go (pc' := 30) (lv' := [(0, .ref a), (1, .int x)]) (st' := [.ref a, .ref a]) (h' := h2) 2 rfl ?_
      refine wp_gK hI2 hT0 rfl rfl rfl g3 ?_
      refine wp_go (pc' := 35) (lv' := [(0, .ref a), (1, .int x)]) (st' := [.int (y1 + Int32.ofInt 1), .ref a]) (h' := h2) 2 rfl ?_
      refine wp_pI hI2 hT0 ha rfl rfl rfl (by decide) (rk_ok_any _) rfl rfl (fun h3 e3 hI3 g4 => ?_)
      have f3 : rk_Fr (fun b => b = a ∨ b = a + 2) h h3 := by rw [e3]; exact f2.put (Or.inl rfl)
      refine wp_go (pc' := 39) (lv' := [(0, .ref a), (1, .int x)]) (st' := [.int (Int32.ofInt 0)]) (h' := h3) 1 rfl ?_
      exact wp_ret rfl rfl ⟨⟨_, rfl⟩, hI3, f3⟩
    · refine wp_go (pc' := 17) (lv' := [(0, .ref a), (1, .int x)]) (st' := [.int (Int32.ofInt 2)]) (h' := h) 1 rfl ?_
      exact wp_ret rfl rfl ⟨⟨_, rfl⟩, hI, rk_Fr.refl h⟩
