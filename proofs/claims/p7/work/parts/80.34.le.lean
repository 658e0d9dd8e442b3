/-! runs with more locals than need be, or in another order -/
def LE (lv lv' : rk_L) : Prop := (∀ q ∈ lv, q.2.category = 1) ∧ ∀ (k : Nat) (v : Value), rk_find lv k = some v → rk_find lv' k = some v
theorem rk_find_fil {i k : Nat} (hk : i ≠ k) : ∀ {lv : rk_L}, (∀ q ∈ lv, q.2.category = 1) → rk_find (lv.filter (fun q => !(q.1 == i) && !(q.1 + 1 == i && q.2.category == 2))) k = rk_find lv k
  | [], _ => rfl
  | q :: lv, hc => by
    have hq := hc q List.mem_cons_self
    have ih := rk_find_fil hk (lv := lv) (fun p hp => hc p (List.mem_cons_of_mem _ hp))
    by_cases e : q.1 = i
    · rw [List.filter_cons_of_neg (by simp [e]), ih, rk_find, rk_nbeq (by rw [e]; exact hk)]
      rfl
    · rw [List.filter_cons_of_pos (by simp [e, hq]), rk_find, rk_find, ih]
theorem rk_find_up {lv : rk_L} (hc : ∀ q ∈ lv, q.2.category = 1) (i : Nat) (v : Value) (k : Nat) : rk_find (rk_up lv i v) k = if i = k then some v else rk_find lv k := by
  unfold rk_up
  rw [rk_find]
  by_cases e : i = k
  · subst e
    rw [show Nat.beq i i = true from Nat.beq_refl i, if_pos rfl]
    rfl
  · rw [rk_nbeq e, if_neg e]
    exact rk_find_fil e hc
theorem LE.up {lv lv' : rk_L} (hL : LE lv lv') (i : Nat) {v : Value} (hv : v.category = 1) : LE (rk_up lv i v) (rk_up lv' i v) := by
  refine ⟨fun q hq => ?_, fun k w hk => ?_⟩
  · unfold rk_up at hq
    cases hq with
    | head => exact hv
    | tail _ hq => exact hL.1 q (List.mem_filter.mp hq).1
  · rw [rk_find_up hL.1] at hk
    by_cases e : i = k
    · subst e
      rw [if_pos rfl] at hk
      cases hk
      unfold rk_up
      rw [rk_find, show Nat.beq i i = true from Nat.beq_refl i]
      rfl
    · rw [if_neg e] at hk
      refine rk_find_up2 e ?_ (hL.2 k w hk)
      exact hL.1 _ (rk_find_mem hk)
theorem LE.li {lv lv' : rk_L} (hL : LE lv lv') {k : Nat} {x : Int32} (h : rk_li lv k = some x) : rk_li lv' k = some x := by
  unfold rk_li at h ⊢
  split at h
  · rename_i y hy
    rw [hL.2 k _ hy]
    exact h
  · cases h
theorem LE.lr {lv lv' : rk_L} (hL : LE lv lv') {k x : Nat} (h : rk_lr lv k = some x) : rk_lr lv' k = some x := by
  unfold rk_lr at h ⊢
  split at h
  · rename_i y hy
    rw [hL.2 k _ hy]
    exact h
  · cases h
section RKLE
variable {M : rk_M} {pc : Nat} {lv lv' : rk_L} {st : List Value} {h : rk_S} {t : rk_T}
theorem rk_stp_le (hL : LE lv lv') {i : Instr} (hn : rk_na i = true) (hs : rk_stp M pc lv st h i = some t) : ∃ lv2, rk_stp M pc lv' st h i = some (t.1, lv2, t.2.2.1, t.2.2.2) ∧ LE t.2.1 lv2 := by
  cases i with
  | iconst n => cases hs; exact ⟨lv', rfl, hL⟩
  | bipush n => cases hs; exact ⟨lv', rfl, hL⟩
  | sipush n => cases hs; exact ⟨lv', rfl, hL⟩
  | ldc x => obtain ⟨v, h1, h2⟩ := Option.map_eq_some_iff.mp hs; subst h2; exact ⟨lv', by simp only [rk_stp, h1, Option.map_some], hL⟩
  | ldc_w x => obtain ⟨v, h1, h2⟩ := Option.map_eq_some_iff.mp hs; subst h2; exact ⟨lv', by simp only [rk_stp, h1, Option.map_some], hL⟩
  | iload_n x => obtain ⟨v, h1, h2⟩ := Option.map_eq_some_iff.mp hs; subst h2; exact ⟨lv', by simp only [rk_stp, hL.li h1, Option.map_some], hL⟩
  | iload x => obtain ⟨v, h1, h2⟩ := Option.map_eq_some_iff.mp hs; subst h2; exact ⟨lv', by simp only [rk_stp, hL.li h1, Option.map_some], hL⟩
  | aload_n x => obtain ⟨v, h1, h2⟩ := Option.map_eq_some_iff.mp hs; subst h2; exact ⟨lv', by simp only [rk_stp, hL.lr h1, Option.map_some], hL⟩
  | aload x => obtain ⟨v, h1, h2⟩ := Option.map_eq_some_iff.mp hs; subst h2; exact ⟨lv', by simp only [rk_stp, hL.lr h1, Option.map_some], hL⟩
  | istore_n k => obtain ⟨x, r, rfl, hk, rfl⟩ := rk_sti_ok hs; exact ⟨_, by simp only [rk_stp, rk_sti, Nat.blt_eq.mpr hk, cond_true], hL.up _ rfl⟩
  | istore k => obtain ⟨x, r, rfl, hk, rfl⟩ := rk_sti_ok hs; exact ⟨_, by simp only [rk_stp, rk_sti, Nat.blt_eq.mpr hk, cond_true], hL.up _ rfl⟩
  | astore_n k => obtain ⟨x, r, rfl, hk, rfl⟩ := rk_sta_ok hs; exact ⟨_, by simp only [rk_stp, rk_sta, Nat.blt_eq.mpr hk, cond_true], hL.up _ rfl⟩
  | astore k => obtain ⟨x, r, rfl, hk, rfl⟩ := rk_sta_ok hs; exact ⟨_, by simp only [rk_stp, rk_sta, Nat.blt_eq.mpr hk, cond_true], hL.up _ rfl⟩
  | iinc k n =>
    simp only [rk_stp] at hs
    split at hs
    · rename_i x hx
      rw [cond_eq_ite] at hs
      split at hs
      · rename_i hk
        cases hs
        exact ⟨_, by simp only [rk_stp, hL.li hx, hk, cond_true], hL.up _ rfl⟩
      · cases hs
    · cases hs
  | iadd => obtain ⟨x, y, r, rfl, rfl⟩ := rk_bin_ok hs; exact ⟨lv', rfl, hL⟩
  | isub => obtain ⟨x, y, r, rfl, rfl⟩ := rk_bin_ok hs; exact ⟨lv', rfl, hL⟩
  | imul => obtain ⟨x, y, r, rfl, rfl⟩ := rk_bin_ok hs; exact ⟨lv', rfl, hL⟩
  | iand => obtain ⟨x, y, r, rfl, rfl⟩ := rk_bin_ok hs; exact ⟨lv', rfl, hL⟩
  | ior => obtain ⟨x, y, r, rfl, rfl⟩ := rk_bin_ok hs; exact ⟨lv', rfl, hL⟩
  | ixor => obtain ⟨x, y, r, rfl, rfl⟩ := rk_bin_ok hs; exact ⟨lv', rfl, hL⟩
  | ishl => obtain ⟨x, y, r, rfl, rfl⟩ := rk_bin_ok hs; exact ⟨lv', rfl, hL⟩
  | ishr => obtain ⟨x, y, r, rfl, rfl⟩ := rk_bin_ok hs; exact ⟨lv', rfl, hL⟩
  | iushr => obtain ⟨x, y, r, rfl, rfl⟩ := rk_bin_ok hs; exact ⟨lv', rfl, hL⟩
  | idiv =>
    simp only [rk_stp] at hs
    split at hs
    · rw [cond_eq_ite] at hs
      split at hs
      · cases hs
      · rename_i hne
        cases hs
        exact ⟨lv', by simp only [rk_stp]; rw [cond_eq_ite, if_neg hne], hL⟩
    · cases hs
  | irem =>
    simp only [rk_stp] at hs
    split at hs
    · rw [cond_eq_ite] at hs
      split at hs
      · cases hs
      · rename_i hne
        cases hs
        exact ⟨lv', by simp only [rk_stp]; rw [cond_eq_ite, if_neg hne], hL⟩
    · cases hs
  | dup =>
    simp only [rk_stp] at hs
    split at hs
    · rw [cond_eq_ite] at hs
      split at hs
      · rename_i hne
        cases hs
        exact ⟨lv', by simp only [rk_stp]; rw [cond_eq_ite, if_pos hne], hL⟩
      · cases hs
    · cases hs
  | dup2 =>
    simp only [rk_stp] at hs
    split at hs
    · rw [cond_eq_ite] at hs
      split at hs
      · rename_i hne
        cases hs
        exact ⟨lv', by simp only [rk_stp]; rw [cond_eq_ite, if_pos hne], hL⟩
      · cases hs
    · cases hs
  | pop =>
    simp only [rk_stp] at hs
    split at hs
    · rw [cond_eq_ite] at hs
      split at hs
      · rename_i hne
        cases hs
        exact ⟨lv', by simp only [rk_stp]; rw [cond_eq_ite, if_pos hne], hL⟩
      · cases hs
    · cases hs
  | ifCond o off =>
    simp only [rk_stp] at hs
    split at hs
    · obtain ⟨v, h1, h2⟩ := Option.map_eq_some_iff.mp hs; subst h2; exact ⟨lv', by simp only [rk_stp, h1, Option.map_some], hL⟩
    · cases hs
  | if_icmp o off =>
    simp only [rk_stp] at hs
    split at hs
    · obtain ⟨v, h1, h2⟩ := Option.map_eq_some_iff.mp hs; subst h2; exact ⟨lv', by simp only [rk_stp, h1, Option.map_some], hL⟩
    · cases hs
  | goto off => obtain ⟨v, h1, h2⟩ := Option.map_eq_some_iff.mp hs; subst h2; exact ⟨lv', by simp only [rk_stp, h1, Option.map_some], hL⟩
  | tableswitch d lo hi offs =>
    simp only [rk_stp, rk_sw] at hs
    split at hs
    · rw [cond_eq_ite] at hs
      split at hs
      · rename_i hc
        obtain ⟨v, h1, h2⟩ := Option.map_eq_some_iff.mp hs; subst h2
        exact ⟨lv', by simp only [rk_stp, rk_sw]; rw [cond_eq_ite, if_pos hc, h1]; rfl, hL⟩
      · rename_i hc
        split at hs
        · rename_i o' ho'
          obtain ⟨v, h1, h2⟩ := Option.map_eq_some_iff.mp hs; subst h2
          exact ⟨lv', by simp only [rk_stp, rk_sw]; rw [cond_eq_ite, if_neg hc, ho']; dsimp only; rw [h1]; rfl, hL⟩
        · cases hs
    · cases hs
  | getfield x =>
    obtain ⟨a, r, f, q, v, rfl, hf, hq, hqf, hv, rfl⟩ := rk_gf_ok hs
    exact ⟨lv', by simp only [rk_stp, rk_gf, hf, hq, rk_beq.mpr hqf, cond_true, hv, Option.map_some], hL⟩
  | putfield x =>
    obtain ⟨v, a, r, f, q, rfl, hf, hq, hqf, ha, hl, hfit, hfin, rfl⟩ := rk_pf_ok hs
    refine ⟨lv', ?_, hL⟩
    simp only [rk_stp, rk_pf, hf, hq] at hs ⊢
    rw [cond_eq_ite] at hs ⊢
    split at hs
    · rename_i hc
      rw [if_pos hc]
    · cases hs
  | iaload =>
    obtain ⟨j, a, r, q, v, rfl, hq, hk, hj, hv, rfl⟩ := rk_ald_ok (ok := fun k => Nat.beq k 9 || Nat.beq k 14) hs
    exact ⟨lv', by simp only [rk_stp, rk_ald, hq, hk, decide_eq_false hj, Bool.not_false, Bool.and_true, cond_true, hv, Option.map_some], hL⟩
  | baload =>
    obtain ⟨j, a, r, q, v, rfl, hq, hk, hj, hv, rfl⟩ := rk_ald_ok (ok := fun k => Nat.beq k 10) hs
    exact ⟨lv', by simp only [rk_stp, rk_ald, hq, hk, decide_eq_false hj, Bool.not_false, Bool.and_true, cond_true, hv, Option.map_some], hL⟩
  | aaload =>
    obtain ⟨j, a, r, q, v, rfl, hq, hk, hj, hv, rfl⟩ := rk_ald_ok (ok := fun k => Nat.beq k 11 || (Nat.beq k 12 || Nat.beq k 13)) hs
    exact ⟨lv', by simp only [rk_stp, rk_ald, hq, hk, decide_eq_false hj, Bool.not_false, Bool.and_true, cond_true, hv, Option.map_some], hL⟩
  | iastore =>
    obtain ⟨x, j, a, r, q, rfl, hq, hk, ha, hj, hlt, rfl⟩ := rk_ast_ok hs
    exact ⟨lv', by simp only [rk_stp, rk_ast, hq, rk_beq.mpr hk, Nat.blt_eq.mpr ha, Nat.blt_eq.mpr hlt, decide_eq_false hj, Bool.not_false, Bool.and_true, cond_true], hL⟩
  | bastore =>
    obtain ⟨x, j, a, r, q, rfl, hq, hk, ha, hj, hlt, rfl⟩ := rk_ast_ok hs
    exact ⟨lv', by simp only [rk_stp, rk_ast, hq, rk_beq.mpr hk, Nat.blt_eq.mpr ha, Nat.blt_eq.mpr hlt, decide_eq_false hj, Bool.not_false, Bool.and_true, cond_true], hL⟩
  | aastore =>
    obtain ⟨v, j, a, r, q, w, rfl, hq, hw, hk, ha, hj, hlt, rfl⟩ := rk_aas_ok hs
    refine ⟨lv', ?_, hL⟩
    have hcond : (((Nat.beq q.1 11 && Nat.beq w.1 0) || (Nat.beq q.1 12 && Nat.beq w.1 1)) && (Nat.blt 0 a && (!decide (j < 0) && Nat.blt j.toNatClampNeg q.2.length))) = true := by
      simp only [Bool.and_eq_true, Bool.or_eq_true, Bool.not_eq_true', decide_eq_false_iff_not, rk_beq, Nat.blt_eq]
      exact ⟨hk, ha, hj, hlt⟩
    simp only [rk_stp, rk_aas, hq, hw, hcond, cond_true]
  | arraylength =>
    simp only [rk_stp] at hs
    split at hs
    · split at hs
      · rename_i q hq
        rw [cond_eq_ite] at hs
        split at hs
        · rename_i hc
          cases hs
          exact ⟨lv', by simp only [rk_stp, hq]; rw [cond_eq_ite, if_pos hc], hL⟩
        · cases hs
      · cases hs
    · cases hs
  | new x => cases hn
  | newarray ty => cases hn
  | anewarray x => cases hn
  | multianewarray x dm => cases hn
  | _ => cases hs
theorem rk_find_all {l : rk_I} {f : Nat × Instr × Nat → Bool} (hl : l.all f = true) {pc : Nat} {ix : Instr × Nat} (h : rk_find l pc = some ix) : f (pc, ix) = true := List.all_eq_true.mp hl _ (rk_find_mem h)
theorem rk_ex_lvle (hM : M.2.2.2.2.2.all (fun q => rk_na q.2.1) = true) : ∀ (n d : Nat) (pc : Nat) (lv lv' : rk_L) (st : List Value) (h : rk_S) (o : Option Value × rk_S), LE lv lv' → rk_ex n d M pc lv st h = some o → rk_ex n d M pc lv' st h = some o
  | 0, _, _, _, _, _, _, _, _, E => by cases E
  | n + 1, d, pc, lv, lv', st, h, o, hL, E => by
    obtain ⟨ix, hix, hh⟩ := rk_ex_inv E
    rcases hh with ⟨t1, h1, h2⟩ | ⟨q, d', a, r, h1, rfl, h3, rfl, h8, h9⟩ | ⟨q, d', x, y, r, h1, rfl, h5, rfl, h8, h9⟩ | ⟨q, d', M', ar, o', h1, rfl, h3, h5, h7, h8, h9, h10⟩ | ⟨v, h1, rfl⟩
    · obtain ⟨lv2, g1, g2⟩ := rk_stp_le hL (rk_find_all hM hix) h1
      exact rk_ex_stp hix g1 (rk_ex_lvle hM n d _ _ _ _ _ _ g2 h2)
    · exact rk_ex_obj hix h1 h3 h8 (rk_ex_lvle hM n _ _ _ _ _ _ _ hL h9)
    · exact rk_ex_max hix h1 h5 h8 (rk_ex_lvle hM n _ _ _ _ _ _ _ hL h9)
    · exact rk_ex_call hix h1 h3 h5 h7 h8 h9 (rk_ex_lvle hM n _ _ _ _ _ _ _ hL h10)
    · exact rk_ex_ret hix h1
end RKLE
/-- a row of locals within another -/
def lvs : rk_L → rk_L → Prop
  | [], _ => True
  | q :: l, lv' => q.2.category = 1 ∧ rk_find lv' q.1 = some q.2 ∧ lvs l lv'
theorem lvs_ok : ∀ {lv lv' : rk_L}, lvs lv lv' → LE lv lv'
  | [], _, _ => ⟨fun q hq => absurd hq List.not_mem_nil, fun k v hk => by cases hk⟩
  | q :: l, lv', ⟨h1, h2, h3⟩ => by
    have ih := lvs_ok h3
    refine ⟨fun p hp => ?_, fun k v hk => ?_⟩
    · rcases List.mem_cons.mp hp with rfl | hp
      · exact h1
      · exact ih.1 p hp
    · rcases rk_find_cons hk with ⟨rfl, rfl⟩ | ⟨-, hk⟩
      · exact h2
      · exact ih.2 k v hk
theorem E_lv {n d : Nat} {M : rk_M} {pc : Nat} {lv : rk_L} {st : List Value} {h : rk_S} {o : Option Value × rk_S} (lv' : rk_L) (hM : M.2.2.2.2.2.all (fun q => rk_na q.2.1) = true) (hl : lvs lv lv') (E : rk_ex n d M pc lv st h = some o) : rk_ex n d M pc lv' st h = some o := rk_ex_lvle hM n d pc lv lv' st h o (lvs_ok hl) E
theorem lvs_n {lv' : rk_L} : lvs [] lv' := trivial
theorem lvs_c {q : Nat × Value} {l lv' : rk_L} (h1 : q.2.category = 1) (h2 : rk_find lv' q.1 = some q.2) (h3 : lvs l lv') : lvs (q :: l) lv' := ⟨h1, h2, h3⟩
