/-! RUNS OVER UNKNOWN HEAPS: 'the run ends, and Q holds of its answer and its heap' -/
def rk_wp (d : Nat) (M : rk_M) (pc : Nat) (lv : rk_L) (st : List Value) (h : rk_S) (Q : Option Value → rk_S → Prop) : Prop := ∃ o, rk_ev d M pc lv st h o ∧ Q o.1 o.2
/-- what a place may hold: an int between two of some pairs, or one of some cells -/
abbrev rk_ST : Type := List (Int × Int) ⊕ List Nat
def rk_okv (t : rk_ST) (v : Value) : Prop := match t, v with
  | .inl b, .int x => ∃ c ∈ b, c.1 ≤ x.toInt ∧ x.toInt ≤ c.2
  | .inr l, .ref a => a ∈ l
  | _, _ => False
/-- a typing of heaps: of a cell its kind, how many places, what each may hold -/
abbrev rk_TY : Type := Nat → Option (Nat × Nat × (Nat → rk_ST))
def rk_Iv (T : rk_TY) (h : rk_S) : Prop := ∀ (i : Nat) (t : Nat × Nat × (Nat → rk_ST)), T i = some t → ∃ vs, h[i]? = some (t.1, vs) ∧ vs.length = t.2.1 ∧ ∀ (k : Nat) (v : Value), vs[k]? = some v → rk_okv (t.2.2 k) v
/-- a place of a heap -/
def rk_get (h : rk_S) (a k : Nat) : Option Value := (h[a]?).bind (fun q => q.2[k]?)
section RKWP
variable {d d' : Nat} {M M' : rk_M} {pc : Nat} {lv : rk_L} {st r : List Value} {h : rk_S} {Q Q' : Option Value → rk_S → Prop} {T : rk_TY} {t : Nat × Nat × (Nat → rk_ST)}
theorem rk_Iv.get (hI : rk_Iv T h) {a k : Nat} (ht : T a = some t) (hk : k < t.2.1) : ∃ v vs, h[a]? = some (t.1, vs) ∧ vs.length = t.2.1 ∧ vs[k]? = some v ∧ rk_get h a k = some v ∧ rk_okv (t.2.2 k) v := by
  obtain ⟨vs, h1, h2, h3⟩ := hI a t ht
  have hl : k < vs.length := by omega
  refine ⟨vs[k], vs, h1, h2, List.getElem?_eq_getElem hl, ?_, h3 k _ (List.getElem?_eq_getElem hl)⟩
  unfold rk_get
  rw [h1]
  exact List.getElem?_eq_getElem hl
theorem rk_get_at {a k : Nat} {v : Value} {q : Nat × List Value} (hq : h[a]? = some q) (hg : rk_get h a k = some v) : q.2[k]? = some v := by
  unfold rk_get at hg
  rw [hq] at hg
  exact hg
/-- the heap behind a write -/
def rk_pt (h : rk_S) (a k : Nat) (v : Value) : rk_S := match h[a]? with
  | some q => h.set a (q.1, q.2.set k v)
  | none => h
theorem rk_pt_eq {a k : Nat} {v : Value} {q : Nat × List Value} (hq : h[a]? = some q) : rk_pt h a k v = h.set a (q.1, q.2.set k v) := by unfold rk_pt; rw [hq]
theorem rk_get_ne {a k a' k' : Nat} {v : Value} (hne : a ≠ a' ∨ k ≠ k') : rk_get (rk_pt h a k v) a' k' = rk_get h a' k' := by
  unfold rk_pt
  split
  · rename_i q hq
    unfold rk_get
    by_cases e : a = a'
    · subst e
      have hl : a < h.length := (List.getElem?_eq_some_iff.mp hq).1
      rw [List.getElem?_set_self hl, hq]
      have hk : k ≠ k' := hne.elim (fun z => absurd rfl z) id
      exact List.getElem?_set_ne hk
    · rw [List.getElem?_set_ne e]
  · rfl
theorem rk_get_self {a k : Nat} {v w : Value} (hg : rk_get h a k = some w) : rk_get (rk_pt h a k v) a k = some v := by
  unfold rk_get at hg ⊢
  cases hq : h[a]? with
  | none => rw [hq] at hg; cases hg
  | some q =>
    rw [hq] at hg
    rw [rk_pt_eq hq]
    have hl : a < h.length := (List.getElem?_eq_some_iff.mp hq).1
    have hk : k < q.2.length := (List.getElem?_eq_some_iff.mp hg).1
    rw [List.getElem?_set_self hl]
    exact List.getElem?_set_self hk
theorem rk_Iv.put (hI : rk_Iv T h) {a k : Nat} {v : Value} (ht : T a = some t) (hk : k < t.2.1) (hv : rk_okv (t.2.2 k) v) : rk_Iv T (rk_pt h a k v) := by
  obtain ⟨vs, h1, h2, h3⟩ := hI a t ht
  intro i t' ht'
  rw [rk_pt_eq h1]
  by_cases e : a = i
  · subst e
    cases ht.symm.trans ht'
    have hl : a < h.length := (List.getElem?_eq_some_iff.mp h1).1
    refine ⟨vs.set k v, List.getElem?_set_self hl, by rw [List.length_set]; exact h2, fun j w hj => ?_⟩
    by_cases e : k = j
    · subst e
      rw [List.getElem?_set_self (by omega)] at hj
      cases hj
      exact hv
    · rw [List.getElem?_set_ne e] at hj
      exact h3 j w hj
  · obtain ⟨ws, g1, g2, g3⟩ := hI i t' ht'
    exact ⟨ws, by rw [List.getElem?_set_ne e]; exact g1, g2, g3⟩
theorem wp_stp {ix : Instr × Nat} {t : rk_T} (hix : rk_find M.2.2.2.2.2 pc = some ix) (ht : rk_stp M pc lv st h ix.1 = some t) (he : rk_wp d M t.1 t.2.1 t.2.2.1 t.2.2.2 Q) : rk_wp d M pc lv st h Q := by
  obtain ⟨o, h1, h2⟩ := he
  exact ⟨o, ev_stp hix ht h1, h2⟩
theorem wp_ret {ix : Instr × Nat} {v : Option Value} (hix : rk_find M.2.2.2.2.2 pc = some ix) (hv : rk_ret M ix.1 st = some v) (hQ : Q v h) : rk_wp d M pc lv st h Q := ⟨(v, h), ev_ret hix hv, hQ⟩
theorem wp_call {ix : Instr × Nat} {q : Nat × Nat × Nat} {ar : List Value × List Value} (hix : rk_find M.2.2.2.2.2 pc = some ix) (hq : rk_inv M ix.1 = some q) (h3 : q.2.2 ≠ 3) (h5 : q.2.2 ≠ 5) (hM : rk_m q.1 = some M') (hg : rk_go M' q.2.1 q.2.2 st h = some ar) (h1 : rk_wp d' M' 0 (lv_args 0 ar.1) [] h Q') (h2 : ∀ (v : Option Value) (h' : rk_S), Q' v h' → rk_wp (d' + 1) M (pc + 3) lv (v.toList ++ ar.2) h' Q) : rk_wp (d' + 1) M pc lv st h Q := by
  obtain ⟨o', e1, f1⟩ := h1
  obtain ⟨o, e2, f2⟩ := h2 _ _ f1
  exact ⟨o, ev_call hix hq h3 h5 hM hg e1 e2, f2⟩
theorem wp_go {pc' : Nat} {lv' : rk_L} {st' : List Value} {h' : rk_S} (k : Nat) (hs : rk_sim k M (pc, lv, st, h) = some (pc', lv', st', h')) (he : rk_wp d M pc' lv' st' h' Q) : rk_wp d M pc lv st h Q := by
  obtain ⟨o, h1, h2⟩ := he
  exact ⟨o, ev_go k hs h1, h2⟩
theorem wp_if1 {x : Int32} {c : Jvm.ClassFile.Cond} {off : Int} {len tg : Nat} (hix : rk_find M.2.2.2.2.2 pc = some (.ifCond c off, len)) (hj : rk_jmp pc off = some tg) (ht : rk_cmpZ c x.toInt 0 = true → rk_wp d M tg lv r h Q) (hf : rk_cmpZ c x.toInt 0 = false → rk_wp d M (pc + 3) lv r h Q) : rk_wp d M pc lv (.int x :: r) h Q := by
  have e0 : rk_cmp c x 0 = rk_cmpZ c x.toInt 0 := rk_cmpI c x 0
  cases e : rk_cmpZ c x.toInt 0 with
  | true =>
    obtain ⟨o, h1, h2⟩ := ht e
    exact ⟨o, ev_if1 hix hj true (e0.trans e) h1, h2⟩
  | false =>
    obtain ⟨o, h1, h2⟩ := hf e
    exact ⟨o, ev_if1 hix hj false (e0.trans e) h1, h2⟩
theorem wp_if2 {x y : Int32} {c : Jvm.ClassFile.Cond} {off : Int} {len tg : Nat} (hix : rk_find M.2.2.2.2.2 pc = some (.if_icmp c off, len)) (hj : rk_jmp pc off = some tg) (ht : rk_cmpZ c x.toInt y.toInt = true → rk_wp d M tg lv r h Q) (hf : rk_cmpZ c x.toInt y.toInt = false → rk_wp d M (pc + 3) lv r h Q) : rk_wp d M pc lv (.int y :: .int x :: r) h Q := by
  have e0 := rk_cmpI c x y
  cases e : rk_cmpZ c x.toInt y.toInt with
  | true =>
    obtain ⟨o, h1, h2⟩ := ht e
    exact ⟨o, ev_if2 hix hj true (e0.trans e) h1, h2⟩
  | false =>
    obtain ⟨o, h1, h2⟩ := hf e
    exact ⟨o, ev_if2 hix hj false (e0.trans e) h1, h2⟩
theorem wp_weak (he : rk_wp d M pc lv st h Q') (hQ : ∀ v h', Q' v h' → Q v h') : rk_wp d M pc lv st h Q := by
  obtain ⟨o, h1, h2⟩ := he
  exact ⟨o, h1, hQ _ _ h2⟩
/-- getfield of a place that is known -/
theorem wp_gf {x len a : Nat} {f : Nat × Nat × Nat × Bool × Bool} {v : Value} {q : Nat × List Value} (hix : rk_find M.2.2.2.2.2 pc = some (.getfield x, len)) (hf : rk_find (rk_fl M.2.2.2.2.1) x = some f) (hq : h[a]? = some q) (hk : q.1 = f.1) (hg : rk_get h a f.2.1 = some v) (he : rk_wp d M (pc + 3) lv (v :: r) h Q) : rk_wp d M pc lv (.ref a :: r) h Q := by
  refine wp_stp (t := (pc + 3, lv, v :: r, h)) hix ?_ he
  simp only [rk_stp, rk_gf, hf, hq, rk_beq.mpr hk, cond_true, rk_get_at hq hg, Option.map_some]
/-- putfield -/
theorem wp_pf {x len a : Nat} {f : Nat × Nat × Nat × Bool × Bool} {v : Value} {q : Nat × List Value} (hix : rk_find M.2.2.2.2.2 pc = some (.putfield x, len)) (hf : rk_find (rk_fl M.2.2.2.2.1) x = some f) (hq : h[a]? = some q) (hk : q.1 = f.1) (ha : 0 < a) (hl : f.2.1 < q.2.length) (hfit : rk_fit f.2.2.1 v = true) (hfin : f.2.2.2.1 = false) (he : rk_wp d M (pc + 3) lv r (rk_pt h a f.2.1 v) Q) : rk_wp d M pc lv (v :: .ref a :: r) h Q := by
  refine wp_stp (t := (pc + 3, lv, r, rk_pt h a f.2.1 v)) hix ?_ he
  have hcond : (Nat.beq q.1 f.1 && (Nat.blt 0 a && (Nat.blt f.2.1 q.2.length && (rk_fit f.2.2.1 v && (!f.2.2.2.1 || (!f.2.2.2.2 && (Nat.beq M.2.2.2.2.1 f.1 && decide (M.1.name = "<init>")))))))) = true := by
    rw [rk_beq.mpr hk, Nat.blt_eq.mpr ha, Nat.blt_eq.mpr hl, hfit, hfin]
    rfl
  simp only [rk_stp, rk_pf, hf, hq, hcond, cond_true, rk_pt_eq hq]
/-- iaload at a place that is known -/
theorem wp_ia {len a : Nat} {j : Int32} {v : Value} {q : Nat × List Value} (hix : rk_find M.2.2.2.2.2 pc = some (.iaload, len)) (hq : h[a]? = some q) (hk : q.1 = 9) (hj : 0 ≤ j.toInt) (hg : rk_get h a j.toNatClampNeg = some v) (he : rk_wp d M (pc + 1) lv (v :: r) h Q) : rk_wp d M pc lv (.int j :: .ref a :: r) h Q := by
  refine wp_stp (t := (pc + 1, lv, v :: r, h)) hix ?_ he
  have hj2 : ¬ j < 0 := by rw [Int32.lt_iff_toInt_lt]; show ¬ j.toInt < 0; omega
  simp only [rk_stp, rk_ald, hq, hk, Nat.beq, Bool.true_or, decide_eq_false hj2, Bool.not_false, Bool.and_true, cond_true, rk_get_at hq hg, Option.map_some]
theorem wp_ias {len a : Nat} {j x : Int32} {q : Nat × List Value} (hix : rk_find M.2.2.2.2.2 pc = some (.iastore, len)) (hq : h[a]? = some q) (hk : q.1 = 9) (ha : 0 < a) (hj : 0 ≤ j.toInt) (hl : j.toNatClampNeg < q.2.length) (he : rk_wp d M (pc + 1) lv r (rk_pt h a j.toNatClampNeg (.int x)) Q) : rk_wp d M pc lv (.int x :: .int j :: .ref a :: r) h Q := by
  refine wp_stp (t := (pc + 1, lv, r, rk_pt h a j.toNatClampNeg (.int x))) hix ?_ he
  have hj2 : ¬ j < 0 := by rw [Int32.lt_iff_toInt_lt]; show ¬ j.toInt < 0; omega
  simp only [rk_stp, rk_ast, hq, hk, Nat.beq, Nat.blt_eq.mpr ha, Nat.blt_eq.mpr hl, decide_eq_false hj2, Bool.not_false, Bool.and_true, cond_true, rk_pt_eq hq]
/-- aaload at a place that is known -/
theorem wp_aa {len a : Nat} {j : Int32} {v : Value} {q : Nat × List Value} (hix : rk_find M.2.2.2.2.2 pc = some (.aaload, len)) (hq : h[a]? = some q) (hk : q.1 = 11 ∨ q.1 = 12 ∨ q.1 = 13) (hj : 0 ≤ j.toInt) (hg : rk_get h a j.toNatClampNeg = some v) (he : rk_wp d M (pc + 1) lv (v :: r) h Q) : rk_wp d M pc lv (.int j :: .ref a :: r) h Q := by
  refine wp_stp (t := (pc + 1, lv, v :: r, h)) hix ?_ he
  have hj2 : ¬ j < 0 := by rw [Int32.lt_iff_toInt_lt]; show ¬ j.toInt < 0; omega
  have hk2 : (Nat.beq q.1 11 || (Nat.beq q.1 12 || Nat.beq q.1 13)) = true := by rcases hk with hk | hk | hk <;> rw [hk] <;> rfl
  simp only [rk_stp, rk_ald, hq, hk2, decide_eq_false hj2, Bool.not_false, Bool.and_true, cond_true, rk_get_at hq hg, Option.map_some]
theorem wp_aas {len a v : Nat} {j : Int32} {q w : Nat × List Value} (hix : rk_find M.2.2.2.2.2 pc = some (.aastore, len)) (hq : h[a]? = some q) (hw : h[v]? = some w) (hk : (q.1 = 11 ∧ w.1 = 0) ∨ (q.1 = 12 ∧ w.1 = 1)) (ha : 0 < a) (hj : 0 ≤ j.toInt) (hl : j.toNatClampNeg < q.2.length) (he : rk_wp d M (pc + 1) lv r (rk_pt h a j.toNatClampNeg (.ref v)) Q) : rk_wp d M pc lv (.ref v :: .int j :: .ref a :: r) h Q := by
  refine wp_stp (t := (pc + 1, lv, r, rk_pt h a j.toNatClampNeg (.ref v))) hix ?_ he
  have hj2 : ¬ j < 0 := by rw [Int32.lt_iff_toInt_lt]; show ¬ j.toInt < 0; omega
  have hcond : (((Nat.beq q.1 11 && Nat.beq w.1 0) || (Nat.beq q.1 12 && Nat.beq w.1 1)) && (Nat.blt 0 a && (!decide (j < 0) && Nat.blt j.toNatClampNeg q.2.length))) = true := by
    simp only [Bool.and_eq_true, Bool.or_eq_true, Bool.not_eq_true', decide_eq_false_iff_not, rk_beq, Nat.blt_eq]
    exact ⟨hk, ha, hj2, hl⟩
  simp only [rk_stp, rk_aas, hq, hw, hcond, cond_true, rk_pt_eq hq]
theorem wp_mx {x y : Int32} {ix : Instr × Nat} {q : Nat × Nat × Nat} (hix : rk_find M.2.2.2.2.2 pc = some ix) (hq : rk_inv M ix.1 = some q) (hk : q.2.2 = 5) (h8 : (r.map fun v => v.category).sum ≤ 8) (he : rk_wp (d' + 1) M (pc + 3) lv (.int (if x < y then y else x) :: r) h Q) : rk_wp (d' + 1) M pc lv (.int y :: .int x :: r) h Q := by
  obtain ⟨o, h1, h2⟩ := he
  exact ⟨o, ev_max hix hq hk h8 h1, h2⟩
end RKWP
