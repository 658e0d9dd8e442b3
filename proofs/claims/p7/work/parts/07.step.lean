/-! ONE INSTRUCTION of the pure machine is one of the real one. -/
def rk_C (E : rk_E) (M : rk_M) (p : Program) (s : State) (m : MethodId) (args : Array Value) (meth : Method) (c : Code) : Prop := p.tables.exec = Jvm.exec ∧ c.code = M.2.1 ∧ c.maxLocals = M.2.2.1 ∧ s.vm.findClass (rk_cn M.2.2.2.2.1) = some m.cls ∧ (∀ w ∈ rk_W, w.before args s = true) ∧ rk_K E s ∧ (M.1.name = "<init>" → meth.name = "<init>") ∧ M.2.2.2.2.1 < 12
def rk_Z (E : rk_E) (M : rk_M) (h0 : rk_S) (lv : rk_L) (h : rk_S) (ls : Array Slot) (H : Heap) (locs : List Loc) (cells slots : Nat) : Prop := lv_has ls M.2.2.1 (lv.map (rk_vp E)) ∧ rk_P E h H ∧ (∀ q ∈ locs, E.2.2.2.2 ≤ q.base) ∧ h0.length + cells = h.length ∧ rk_sz h0 + slots = rk_sz h
theorem rk_beq {a b : Nat} : (Nat.beq a b = true) = (a = b) := propext ⟨Nat.eq_of_beq_eq_true, fun h => by subst h; exact Nat.beq_refl a⟩
section RKI
variable {M : rk_M} {pc : Nat} {lv : rk_L} {st : List Value} {h : rk_S} {t : rk_T}
theorem rk_bin_ok {f : Int32 → Int32 → Int32} (hs : rk_bin pc lv st h f = some t) : ∃ x y r, st = .int y :: .int x :: r ∧ t = (pc + 1, lv, .int (f x y) :: r, h) := by
  unfold rk_bin at hs
  split at hs
  · rename_i y x r
    cases hs
    exact ⟨x, y, r, rfl, rfl⟩
  · cases hs
theorem rk_sti_ok {k pc' : Nat} (hs : rk_sti M lv st h k pc' = some t) : ∃ x r, st = .int x :: r ∧ k < M.2.2.1 ∧ t = (pc', rk_up lv k (.int x), r, h) := by
  unfold rk_sti at hs
  split at hs
  · rename_i x r
    cases e : Nat.blt k M.2.2.1 with
    | true =>
      rw [e] at hs
      cases hs
      exact ⟨x, r, rfl, Nat.blt_eq.mp e, rfl⟩
    | false =>
      rw [e] at hs
      cases hs
  · cases hs
theorem rk_sta_ok {k pc' : Nat} (hs : rk_sta M lv st h k pc' = some t) : ∃ x r, st = .ref x :: r ∧ k < M.2.2.1 ∧ t = (pc', rk_up lv k (.ref x), r, h) := by
  unfold rk_sta at hs
  split at hs
  · rename_i x r
    cases e : Nat.blt k M.2.2.1 with
    | true =>
      rw [e] at hs
      cases hs
      exact ⟨x, r, rfl, Nat.blt_eq.mp e, rfl⟩
    | false =>
      rw [e] at hs
      cases hs
  · cases hs
theorem rk_gf_ok {x : Nat} (hs : rk_gf M pc lv st h x = some t) : ∃ a r f q v, st = .ref a :: r ∧ rk_find (rk_fl M.2.2.2.2.1) x = some f ∧ h[a]? = some q ∧ q.1 = f.1 ∧ q.2[f.2.1]? = some v ∧ t = (pc + 3, lv, v :: r, h) := by
  unfold rk_gf at hs
  split at hs
  · rename_i a r
    split at hs
    · rename_i f q hf hq
      cases e : Nat.beq q.1 f.1 with
      | true =>
        rw [e] at hs
        obtain ⟨v, h1, h2⟩ := Option.map_eq_some_iff.mp hs
        exact ⟨a, r, f, q, v, rfl, hf, hq, Nat.eq_of_beq_eq_true e, h1, h2.symm⟩
      | false =>
        rw [e] at hs
        cases hs
    · cases hs
  · cases hs
theorem rk_pf_ok {x : Nat} (hs : rk_pf M pc lv st h x = some t) : ∃ v a r f q, st = v :: .ref a :: r ∧ rk_find (rk_fl M.2.2.2.2.1) x = some f ∧ h[a]? = some q ∧ q.1 = f.1 ∧ 0 < a ∧ f.2.1 < q.2.length ∧ rk_fit f.2.2.1 v = true ∧ (f.2.2.2.1 = false ∨ (f.2.2.2.2 = false ∧ M.2.2.2.2.1 = f.1 ∧ M.1.name = "<init>")) ∧ t = (pc + 3, lv, r, h.set a (q.1, q.2.set f.2.1 v)) := by
  unfold rk_pf at hs
  split at hs
  · rename_i v a r
    split at hs
    · rename_i f q hf hq
      rw [cond_eq_ite] at hs
      split at hs
      · rename_i e
        simp only [Bool.and_eq_true, Bool.or_eq_true, Bool.not_eq_true', decide_eq_true_eq, rk_beq, Nat.blt_eq] at e
        cases hs
        exact ⟨v, a, r, f, q, rfl, hf, hq, e.1, e.2.1, e.2.2.1, e.2.2.2.1, e.2.2.2.2, rfl⟩
      · cases hs
    · cases hs
  · cases hs
theorem rk_ald_ok {ok : Nat → Bool} (hs : rk_ald pc lv st h ok = some t) : ∃ j a r q v, st = .int j :: .ref a :: r ∧ h[a]? = some q ∧ ok q.1 = true ∧ ¬ j < 0 ∧ q.2[j.toNatClampNeg]? = some v ∧ t = (pc + 1, lv, v :: r, h) := by
  unfold rk_ald at hs
  split at hs
  · rename_i j a r
    split at hs
    · rename_i q hq
      rw [cond_eq_ite] at hs
      split at hs
      · rename_i e
        simp only [Bool.and_eq_true, Bool.not_eq_true', decide_eq_false_iff_not] at e
        obtain ⟨v, h1, h2⟩ := Option.map_eq_some_iff.mp hs
        exact ⟨j, a, r, q, v, rfl, hq, e.1, e.2, h1, h2.symm⟩
      · cases hs
    · cases hs
  · cases hs
theorem rk_ast_ok {k : Nat} {f : Int32 → Value} (hs : rk_ast pc lv st h k f = some t) : ∃ x j a r q, st = .int x :: .int j :: .ref a :: r ∧ h[a]? = some q ∧ q.1 = k ∧ 0 < a ∧ ¬ j < 0 ∧ j.toNatClampNeg < q.2.length ∧ t = (pc + 1, lv, r, h.set a (q.1, q.2.set j.toNatClampNeg (f x))) := by
  unfold rk_ast at hs
  split at hs
  · rename_i x j a r
    split at hs
    · rename_i q hq
      rw [cond_eq_ite] at hs
      split at hs
      · rename_i e
        simp only [Bool.and_eq_true, Bool.not_eq_true', decide_eq_false_iff_not, rk_beq, Nat.blt_eq] at e
        cases hs
        exact ⟨x, j, a, r, q, rfl, hq, e.1, e.2.1, e.2.2.1, e.2.2.2, rfl⟩
      · cases hs
    · cases hs
  · cases hs
theorem rk_aas_ok (hs : rk_aas pc lv st h = some t) : ∃ v j a r q w, st = .ref v :: .int j :: .ref a :: r ∧ h[a]? = some q ∧ h[v]? = some w ∧ ((q.1 = 11 ∧ w.1 = 0) ∨ (q.1 = 12 ∧ w.1 = 1)) ∧ 0 < a ∧ ¬ j < 0 ∧ j.toNatClampNeg < q.2.length ∧ t = (pc + 1, lv, r, h.set a (q.1, q.2.set j.toNatClampNeg (.ref v))) := by
  unfold rk_aas at hs
  split at hs
  · rename_i v j a r
    split at hs
    · rename_i q w hq hw
      rw [cond_eq_ite] at hs
      split at hs
      · rename_i e
        simp only [Bool.and_eq_true, Bool.or_eq_true, Bool.not_eq_true', decide_eq_false_iff_not, rk_beq, Nat.blt_eq] at e
        cases hs
        exact ⟨v, j, a, r, q, w, rfl, hq, hw, e.1, e.2.1, e.2.2.1, e.2.2.2, rfl⟩
      · cases hs
    · cases hs
  · cases hs
theorem rk_new_ok {x : Nat} (hs : rk_new M pc lv st h x = some t) : ∃ ci, rk_find (rk_kl M.2.2.2.2.1) x = some ci ∧ ci < 9 ∧ t = (pc + 3, lv, .ref h.length :: st, h ++ [(ci, rk_df ci)]) := by
  unfold rk_new at hs
  split at hs
  · rename_i ci hci
    rw [cond_eq_ite] at hs
    split at hs
    · rename_i e
      cases hs
      exact ⟨ci, hci, Nat.blt_eq.mp e, rfl⟩
    · cases hs
  · cases hs
theorem rk_nwa_ok {k : Nat} (hs : rk_nwa pc lv st h k = some t) : ∃ n r, st = .int n :: r ∧ ¬ n < 0 ∧ n.toNatClampNeg ≤ 100000 ∧ t = (pc + 2, lv, .ref h.length :: r, h ++ [(k, List.replicate n.toNatClampNeg (.int 0))]) := by
  unfold rk_nwa at hs
  split at hs
  · rename_i n r
    rw [cond_eq_ite] at hs
    split at hs
    · rename_i e
      simp only [Bool.and_eq_true, Bool.not_eq_true', decide_eq_false_iff_not, Nat.ble_eq] at e
      cases hs
      exact ⟨n, r, rfl, e.1, e.2, rfl⟩
    · cases hs
  · cases hs
theorem rk_anw_ok {x : Nat} (hs : rk_anw M pc lv st h x = some t) : ∃ n r ci, st = .int n :: r ∧ rk_find (rk_kl M.2.2.2.2.1) x = some ci ∧ ci < 2 ∧ ¬ n < 0 ∧ n.toNatClampNeg ≤ 100000 ∧ t = (pc + 3, lv, .ref h.length :: r, h ++ [(11 + ci, List.replicate n.toNatClampNeg .null)]) := by
  unfold rk_anw at hs
  split at hs
  · rename_i n r
    split at hs
    · rename_i ci hci
      rw [cond_eq_ite] at hs
      split at hs
      · rename_i e
        simp only [Bool.and_eq_true, Bool.not_eq_true', decide_eq_false_iff_not, Nat.ble_eq, Nat.blt_eq] at e
        cases hs
        exact ⟨n, r, ci, rfl, hci, e.1, e.2.1, e.2.2, rfl⟩
      · cases hs
    · cases hs
  · cases hs
theorem rk_mnw_ok {x dm : Nat} (hs : rk_mnw M pc lv st h x dm = some t) : ∃ k n r, st = .int k :: .int n :: r ∧ rk_find (rk_kl M.2.2.2.2.1) x = some 13 ∧ dm = 2 ∧ ¬ n < 0 ∧ ¬ k < 0 ∧ n.toNatClampNeg ≤ 1000 ∧ k.toNatClampNeg ≤ 1000 ∧ t = (pc + 4, lv, .ref h.length :: r, h ++ ((13, (List.range n.toNatClampNeg).map (fun j => .ref (h.length + 1 + j))) :: List.replicate n.toNatClampNeg (9, List.replicate k.toNatClampNeg (.int 0)))) := by
  unfold rk_mnw at hs
  split at hs
  · rename_i k n r
    split at hs
    · rename_i ci hci
      rw [cond_eq_ite] at hs
      split at hs
      · rename_i e
        simp only [Bool.and_eq_true, Bool.not_eq_true', decide_eq_false_iff_not, Nat.ble_eq, rk_beq] at e
        cases hs
        exact ⟨k, n, r, rfl, by rw [hci, e.1], e.2.1, e.2.2.1, e.2.2.2.1, e.2.2.2.2.1, e.2.2.2.2.2, rfl⟩
      · cases hs
    · cases hs
  · cases hs
end RKI
theorem rk_fitok {E : rk_E} {d : String} {k : Nat} {v : Value} (h1 : rk_kd d k = true) (h2 : rk_fit k v = true) : ∃ ty, parseFieldDescriptor d = some ty ∧ narrow ty (rk_v E v) = rk_v E v ∧ fits ty (rk_v E v) = true := by
  unfold rk_kd at h1
  split at h1
  · rename_i e
    have hk := Nat.eq_of_beq_eq_true h1
    subst hk
    refine ⟨_, e, ?_⟩
    cases v <;> simp [rk_fit] at h2
    exact ⟨rfl, rfl⟩
  · rename_i e
    have hk := Nat.eq_of_beq_eq_true h1
    subst hk
    refine ⟨_, e, ?_⟩
    cases v <;> simp [rk_fit] at h2
    rcases h2 with h2 | h2 <;> subst h2 <;> exact ⟨rfl, rfl⟩
  · rename_i e
    have hk := Nat.eq_of_beq_eq_true h1
    subst hk
    refine ⟨_, e, ?_⟩
    cases v <;> simp [rk_fit] at h2 <;> exact ⟨rfl, rfl⟩
  · rename_i e
    have hk := Nat.eq_of_beq_eq_true h1
    subst hk
    refine ⟨_, e, ?_⟩
    cases v <;> simp [rk_fit] at h2 <;> exact ⟨rfl, rfl⟩
  · cases h1
theorem rk_df_v (E : rk_E) : ∀ ci, (rk_df ci).map (rk_v E) = rk_df ci
  | 0 => rfl
  | 1 => rfl
  | 2 => rfl
  | 3 => rfl
  | 4 => rfl
  | 5 => rfl
  | 6 => rfl
  | 7 => rfl
  | 8 => rfl
  | _ + 9 => rfl
theorem rk_at_obj {E : rk_E} {a : Nat} {q : Nat × List Value} {H : Heap} {r : vw_C} (h : rk_at E a q H) (hr : vwCl[q.1]? = some r) : q.2.length = r.2.2 ∧ t_OB a (E.1.1 q.1) r.2.2 (E.1.2 q.1) H (vp_V (q.2.map (rk_v E))) := by
  have hl : q.1 < 9 := (List.getElem?_eq_some_iff.mp hr).1
  rcases h with ⟨_, r', h2, h3, h4⟩ | ⟨h1, -⟩ | ⟨h1, -⟩
  · cases hr.symm.trans h2
    exact ⟨h3, h4⟩
  · omega
  · omega
theorem rk_at_arr {E : rk_E} {a : Nat} {q : Nat × List Value} {H : Heap} (h : rk_at E a q H) (h1 : 9 ≤ q.1) (h2 : q.1 < 14) : H[a]? = some ({ cls := E.2.1 q.1, slots := (q.2.map (rk_v E)).toArray, vm := .none } : Cell) := by
  rcases h with ⟨g1, -⟩ | ⟨g1, -⟩ | ⟨_, g2⟩
  · omega
  · omega
  · exact g2
theorem rk_at_scr {E : rk_E} {a : Nat} {q : Nat × List Value} {H : Heap} (h : rk_at E a q H) (h1 : q.1 = 14) : H[a]? = some E.2.2.1 ∧ E.2.2.1.slots = (q.2.map (rk_v E)).toArray := by
  rcases h with ⟨g1, -⟩ | ⟨_, g2, g3⟩ | ⟨g1, -⟩
  · omega
  · exact ⟨g2, g3⟩
  · omega
theorem rk_base {E : rk_E} {a : Nat} (h : 0 < a) : E.2.2.2.2 ≤ rk_ad E a := by
  cases a with
  | zero => omega
  | succ a => simp only [rk_ad]; omega
theorem rk_ug {C : String} {T : u_T} {N : Nat} (w : Jvm.Cond) (h : w ∈ u_ws C T N) : goodWord w = true := by
  obtain ⟨k, -, rfl⟩ := List.mem_map.mp h
  unfold u_lay
  split <;> rfl
