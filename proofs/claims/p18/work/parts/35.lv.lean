/-! more locals, or in another order: the same run -/
def rk_c1 (lv : rk_L) : Prop := ∀ q ∈ lv, ¬ q.2.category = 2
def rk_le (lv lv' : rk_L) : Prop := rk_c1 lv ∧ rk_c1 lv' ∧ ∀ k v, rk_find lv k = some v → rk_find lv' k = some v
theorem rk_find_fl {i k : Nat} (hk : i ≠ k) : ∀ {lv : rk_L}, rk_c1 lv → rk_find (lv.filter (fun q => !(q.1 == i) && !(q.1 + 1 == i && q.2.category == 2))) k = rk_find lv k
  | [], _ => rfl
  | q :: r, hc => by
    have hq : ¬ q.2.category = 2 := hc q List.mem_cons_self
    have hr := rk_find_fl hk (lv := r) (fun x hx => hc x (List.mem_cons_of_mem _ hx))
    by_cases e : q.1 = i
    · rw [List.filter_cons_of_neg (by simp [e]), hr, rk_find, rk_nbeq (by omega)]
      rfl
    · rw [List.filter_cons_of_pos (by simp [e, hq]), rk_find, rk_find, hr]
theorem rk_find_up {lv : rk_L} {i k : Nat} {v : Value} (hc : rk_c1 lv) : rk_find (rk_up lv i v) k = if i = k then some v else rk_find lv k := by
  unfold rk_up
  rw [rk_find]
  by_cases e : i = k
  · subst e
    rw [show Nat.beq i i = true from Nat.beq_refl i, if_pos rfl]
    rfl
  · rw [rk_nbeq e, if_neg e]
    exact rk_find_fl e hc
theorem rk_c1_up {lv : rk_L} {i : Nat} {v : Value} (hc : rk_c1 lv) (hv : ¬ v.category = 2) : rk_c1 (rk_up lv i v) := by
  intro q hq
  rcases List.mem_cons.mp hq with rfl | hq
  · exact hv
  · exact hc q (List.mem_filter.mp hq).1
theorem rk_le.up {lv lv' : rk_L} (h : rk_le lv lv') (i : Nat) {v : Value} (hv : ¬ v.category = 2) : rk_le (rk_up lv i v) (rk_up lv' i v) := by
  refine ⟨rk_c1_up h.1 hv, rk_c1_up h.2.1 hv, fun k w hw => ?_⟩
  rw [rk_find_up h.1] at hw
  rw [rk_find_up h.2.1]
  by_cases e : i = k
  · rw [if_pos e] at hw ⊢; exact hw
  · rw [if_neg e] at hw ⊢; exact h.2.2 k w hw
theorem rk_le.li {lv lv' : rk_L} (h : rk_le lv lv') {k : Nat} {x : Int32} (hx : rk_li lv k = some x) : rk_li lv' k = some x := by
  unfold rk_li at hx ⊢
  split at hx
  · rename_i y hy
    rw [h.2.2 k _ hy]
    exact hx
  · cases hx
theorem rk_le.lr {lv lv' : rk_L} (h : rk_le lv lv') {k x : Nat} (hx : rk_lr lv k = some x) : rk_lr lv' k = some x := by
  unfold rk_lr at hx ⊢
  split at hx
  · rename_i y hy
    rw [h.2.2 k _ hy]
    exact hx
  · cases hx
set_option maxHeartbeats 4000000 in
theorem rk_stp_lv {M : rk_M} {pc : Nat} {lv lv' : rk_L} {st : List Value} {h : rk_S} {i : Instr} {t : rk_T} (hl : rk_le lv lv') (hs : rk_stp M pc lv st h i = some t) : ∃ l', rk_le t.2.1 l' ∧ rk_stp M pc lv' st h i = some (t.1, l', t.2.2.1, t.2.2.2) := by
  cases i with
  | iconst n => cases hs; exact ⟨lv', hl, rfl⟩
  | bipush n => cases hs; exact ⟨lv', hl, rfl⟩
  | sipush n => cases hs; exact ⟨lv', hl, rfl⟩
  | ldc x => obtain ⟨v, h1, h2⟩ := Option.map_eq_some_iff.mp hs; subst h2; exact ⟨lv', hl, by simp only [rk_stp, h1, Option.map_some]⟩
  | ldc_w x => obtain ⟨v, h1, h2⟩ := Option.map_eq_some_iff.mp hs; subst h2; exact ⟨lv', hl, by simp only [rk_stp, h1, Option.map_some]⟩
  | iload_n x => obtain ⟨v, h1, h2⟩ := Option.map_eq_some_iff.mp hs; subst h2; exact ⟨lv', hl, by simp only [rk_stp, hl.li h1, Option.map_some]⟩
  | iload x => obtain ⟨v, h1, h2⟩ := Option.map_eq_some_iff.mp hs; subst h2; exact ⟨lv', hl, by simp only [rk_stp, hl.li h1, Option.map_some]⟩
  | aload_n x => obtain ⟨v, h1, h2⟩ := Option.map_eq_some_iff.mp hs; subst h2; exact ⟨lv', hl, by simp only [rk_stp, hl.lr h1, Option.map_some]⟩
  | aload x => obtain ⟨v, h1, h2⟩ := Option.map_eq_some_iff.mp hs; subst h2; exact ⟨lv', hl, by simp only [rk_stp, hl.lr h1, Option.map_some]⟩
  | istore_n k => obtain ⟨x, r, rfl, hk, rfl⟩ := rk_sti_ok hs; exact ⟨_, hl.up _ (by simp [Value.category]), by simp only [rk_stp, rk_sti, Nat.blt_eq.mpr hk, cond_true]⟩
  | istore k => obtain ⟨x, r, rfl, hk, rfl⟩ := rk_sti_ok hs; exact ⟨_, hl.up _ (by simp [Value.category]), by simp only [rk_stp, rk_sti, Nat.blt_eq.mpr hk, cond_true]⟩
  | astore_n k => obtain ⟨x, r, rfl, hk, rfl⟩ := rk_sta_ok hs; exact ⟨_, hl.up _ (by simp [Value.category]), by simp only [rk_stp, rk_sta, Nat.blt_eq.mpr hk, cond_true]⟩
  | astore k => obtain ⟨x, r, rfl, hk, rfl⟩ := rk_sta_ok hs; exact ⟨_, hl.up _ (by simp [Value.category]), by simp only [rk_stp, rk_sta, Nat.blt_eq.mpr hk, cond_true]⟩
  | iinc k n =>
    simp only [rk_stp] at hs ⊢
    split at hs
    · rename_i x hx
      rw [cond_eq_ite] at hs
      split at hs
      · rename_i hk
        cases hs
        exact ⟨_, hl.up _ (by simp [Value.category]), by simp only [hl.li hx, hk, cond_true]⟩
      · cases hs
    · cases hs
  | iadd => obtain ⟨x, y, r, rfl, rfl⟩ := rk_bin_ok hs; exact ⟨lv', hl, rfl⟩
  | isub => obtain ⟨x, y, r, rfl, rfl⟩ := rk_bin_ok hs; exact ⟨lv', hl, rfl⟩
  | imul => obtain ⟨x, y, r, rfl, rfl⟩ := rk_bin_ok hs; exact ⟨lv', hl, rfl⟩
  | iand => obtain ⟨x, y, r, rfl, rfl⟩ := rk_bin_ok hs; exact ⟨lv', hl, rfl⟩
  | ior => obtain ⟨x, y, r, rfl, rfl⟩ := rk_bin_ok hs; exact ⟨lv', hl, rfl⟩
  | ixor => obtain ⟨x, y, r, rfl, rfl⟩ := rk_bin_ok hs; exact ⟨lv', hl, rfl⟩
  | ishl => obtain ⟨x, y, r, rfl, rfl⟩ := rk_bin_ok hs; exact ⟨lv', hl, rfl⟩
  | ishr => obtain ⟨x, y, r, rfl, rfl⟩ := rk_bin_ok hs; exact ⟨lv', hl, rfl⟩
  | iushr => obtain ⟨x, y, r, rfl, rfl⟩ := rk_bin_ok hs; exact ⟨lv', hl, rfl⟩
  | idiv =>
    simp only [rk_stp] at hs ⊢
    split at hs
    · rw [cond_eq_ite] at hs
      split at hs
      · cases hs
      · rename_i hk
        cases hs
        exact ⟨lv', hl, by simp only [Bool.not_eq_true _ ▸ hk, cond_false]⟩
    · cases hs
  | irem =>
    simp only [rk_stp] at hs ⊢
    split at hs
    · rw [cond_eq_ite] at hs
      split at hs
      · cases hs
      · rename_i hk
        cases hs
        exact ⟨lv', hl, by simp only [Bool.not_eq_true _ ▸ hk, cond_false]⟩
    · cases hs
  | dup =>
    simp only [rk_stp] at hs ⊢
    split at hs
    · rw [cond_eq_ite] at hs
      split at hs
      · rename_i hk
        cases hs
        exact ⟨lv', hl, by simp only [hk, cond_true]⟩
      · cases hs
    · cases hs
  | dup2 =>
    simp only [rk_stp] at hs ⊢
    split at hs
    · rw [cond_eq_ite] at hs
      split at hs
      · rename_i hk
        cases hs
        exact ⟨lv', hl, by simp only [hk, cond_true]⟩
      · cases hs
    · cases hs
  | pop =>
    simp only [rk_stp] at hs ⊢
    split at hs
    · rw [cond_eq_ite] at hs
      split at hs
      · rename_i hk
        cases hs
        exact ⟨lv', hl, by simp only [hk, cond_true]⟩
      · cases hs
    · cases hs
  | ifCond o off =>
    simp only [rk_stp] at hs ⊢
    split at hs
    · obtain ⟨v, h1, h2⟩ := Option.map_eq_some_iff.mp hs; subst h2; exact ⟨lv', hl, by simp only [h1, Option.map_some]⟩
    · cases hs
  | if_icmp o off =>
    simp only [rk_stp] at hs ⊢
    split at hs
    · obtain ⟨v, h1, h2⟩ := Option.map_eq_some_iff.mp hs; subst h2; exact ⟨lv', hl, by simp only [h1, Option.map_some]⟩
    · cases hs
  | goto off => obtain ⟨v, h1, h2⟩ := Option.map_eq_some_iff.mp hs; subst h2; exact ⟨lv', hl, by simp only [rk_stp, h1, Option.map_some]⟩
  | tableswitch d lo hi offs =>
    simp only [rk_stp, rk_sw] at hs ⊢
    split at hs
    · rw [cond_eq_ite] at hs
      split at hs
      · rename_i hk
        obtain ⟨v, h1, h2⟩ := Option.map_eq_some_iff.mp hs
        subst h2
        exact ⟨lv', hl, by simp only [hk, cond_true, h1, Option.map_some]⟩
      · rename_i hk
        split at hs
        · rename_i o ho
          obtain ⟨v, h1, h2⟩ := Option.map_eq_some_iff.mp hs
          subst h2
          exact ⟨lv', hl, by simp only [Bool.not_eq_true _ ▸ hk, cond_false, ho, h1, Option.map_some]⟩
        · cases hs
    · cases hs
  | getfield x =>
    obtain ⟨a, r, f, q, v, rfl, hf, hq, hqf, hv, rfl⟩ := rk_gf_ok hs
    refine ⟨lv', hl, ?_⟩
    simp only [rk_stp, rk_gf, hf, hq, rk_beq.mpr hqf, cond_true, hv, Option.map_some]
  | putfield x =>
    obtain ⟨v, a, r, f, q, rfl, hf, hq, hqf, ha, hw2, hfit, hfin, rfl⟩ := rk_pf_ok hs
    refine ⟨lv', hl, ?_⟩
    have hcond : (Nat.beq q.1 f.1 && (Nat.blt 0 a && (Nat.blt f.2.1 q.2.length && (rk_fit f.2.2.1 v && (!f.2.2.2.1 || (!f.2.2.2.2 && (Nat.beq M.2.2.2.2.1 f.1 && decide (M.1.name = "<init>")))))))) = true := by
      simp only [Bool.and_eq_true, Bool.or_eq_true, Bool.not_eq_true', decide_eq_true_eq, rk_beq, Nat.blt_eq]
      exact ⟨hqf, ha, hw2, hfit, hfin⟩
    simp only [rk_stp, rk_pf, hf, hq, hcond, cond_true]
  | iaload =>
    obtain ⟨j, a, r, q, v, rfl, hq, hk, hj, hv, rfl⟩ := rk_ald_ok (ok := fun k => Nat.beq k 9 || Nat.beq k 14) hs
    have hk2 := hk
    simp only [Bool.or_eq_true, rk_beq] at hk2
    refine ⟨lv', hl, ?_⟩
    simp only [rk_stp, rk_ald, hq, hk, decide_eq_false hj, Bool.not_false, Bool.and_true, cond_true, hv, Option.map_some]
  | baload =>
    obtain ⟨j, a, r, q, v, rfl, hq, hk, hj, hv, rfl⟩ := rk_ald_ok (ok := fun k => Nat.beq k 10) hs
    have hk2 := hk
    simp only [rk_beq] at hk2
    refine ⟨lv', hl, ?_⟩
    simp only [rk_stp, rk_ald, hq, hk, decide_eq_false hj, Bool.not_false, Bool.and_true, cond_true, hv, Option.map_some]
  | aaload =>
    obtain ⟨j, a, r, q, v, rfl, hq, hk, hj, hv, rfl⟩ := rk_ald_ok (ok := fun k => Nat.beq k 11 || (Nat.beq k 12 || Nat.beq k 13)) hs
    have hk2 := hk
    simp only [Bool.or_eq_true, rk_beq] at hk2
    refine ⟨lv', hl, ?_⟩
    simp only [rk_stp, rk_ald, hq, hk, decide_eq_false hj, Bool.not_false, Bool.and_true, cond_true, hv, Option.map_some]
  | iastore =>
    obtain ⟨x, j, a, r, q, rfl, hq, hk, ha, hj, hlt, rfl⟩ := rk_ast_ok (k := 9) (f := fun x => .int x) hs
    refine ⟨lv', hl, ?_⟩
    simp only [rk_stp, rk_ast, hq, rk_beq.mpr hk, Nat.blt_eq.mpr ha, Nat.blt_eq.mpr hlt, decide_eq_false hj, Bool.not_false, Bool.and_true, cond_true]
  | bastore =>
    obtain ⟨x, j, a, r, q, rfl, hq, hk, ha, hj, hlt, rfl⟩ := rk_ast_ok (k := 10) (f := fun x => narrow .boolean (.int x)) hs
    refine ⟨lv', hl, ?_⟩
    simp only [rk_stp, rk_ast, hq, rk_beq.mpr hk, Nat.blt_eq.mpr ha, Nat.blt_eq.mpr hlt, decide_eq_false hj, Bool.not_false, Bool.and_true, cond_true]
  | aastore =>
    obtain ⟨v, j, a, r, q, w, rfl, hq, hw, hk, ha, hj, hlt, rfl⟩ := rk_aas_ok hs
    refine ⟨lv', hl, ?_⟩
    have hcond : (((Nat.beq q.1 11 && Nat.beq w.1 0) || (Nat.beq q.1 12 && Nat.beq w.1 1)) && (Nat.blt 0 a && (!decide (j < 0) && Nat.blt j.toNatClampNeg q.2.length))) = true := by
      simp only [Bool.and_eq_true, Bool.or_eq_true, Bool.not_eq_true', decide_eq_false_iff_not, rk_beq, Nat.blt_eq]
      exact ⟨hk, ha, hj, hlt⟩
    simp only [rk_stp, rk_aas, hq, hw, hcond, cond_true]
  | arraylength =>
    simp only [rk_stp] at hs ⊢
    split at hs
    · rename_i a r
      split at hs
      · rename_i q hq
        rw [cond_eq_ite] at hs
        split at hs
        · rename_i hk
          cases hs
          exact ⟨lv', hl, by simp only [hq, hk, cond_true]⟩
        · cases hs
      · cases hs
    · cases hs
  | new x =>
    obtain ⟨ci, hf, hci, rfl⟩ := rk_new_ok hs
    exact ⟨lv', hl, by simp only [rk_stp, rk_new, hf, Nat.blt_eq.mpr hci, cond_true]⟩
  | newarray ty =>
    cases ty with
    | int =>
      obtain ⟨n, r, rfl, hn, hN, rfl⟩ := rk_nwa_ok (k := 9) hs
      exact ⟨lv', hl, by simp only [rk_stp, rk_nwa, decide_eq_false hn, Nat.ble_eq_true_of_le hN, Bool.not_false, Bool.and_true, cond_true]⟩
    | boolean =>
      obtain ⟨n, r, rfl, hn, hN, rfl⟩ := rk_nwa_ok (k := 10) hs
      exact ⟨lv', hl, by simp only [rk_stp, rk_nwa, decide_eq_false hn, Nat.ble_eq_true_of_le hN, Bool.not_false, Bool.and_true, cond_true]⟩
    | _ => cases hs
  | anewarray x =>
    obtain ⟨n, r, ci, rfl, hf, hci, hn, hN, rfl⟩ := rk_anw_ok hs
    exact ⟨lv', hl, by simp only [rk_stp, rk_anw, hf, Nat.blt_eq.mpr hci, decide_eq_false hn, Nat.ble_eq_true_of_le hN, Bool.not_false, Bool.and_true, cond_true]⟩
  | multianewarray x dm =>
    obtain ⟨k, n, r, rfl, hf, rfl, hn, hk, hN, hM, rfl⟩ := rk_mnw_ok hs
    exact ⟨lv', hl, by simp only [rk_stp, rk_mnw, hf, Nat.beq, decide_eq_false hn, decide_eq_false hk, Nat.ble_eq_true_of_le hN, Nat.ble_eq_true_of_le hM, Bool.not_false, Bool.and_true, cond_true]⟩
  | _ => cases hs
theorem rk_ex_lv : ∀ (n d : Nat) (M : rk_M) (pc : Nat) (lv lv' : rk_L) (st : List Value) (h : rk_S) (o : Option Value × rk_S), rk_le lv lv' → rk_ex n d M pc lv st h = some o → rk_ex n d M pc lv' st h = some o
  | 0, _, _, _, _, _, _, _, _, _, he => by cases he
  | n + 1, d, M, pc, lv, lv', st, h, o, hl, he => by
    obtain ⟨ix, hix, ⟨t, ht, h1⟩ | ⟨q, d', a, r, hq, rfl, hk, rfl, h8, h1⟩ | ⟨q, d', x, y, r, hq, rfl, hk, rfl, h8, h1⟩ | ⟨q, d', M', ar, o', hq, rfl, h3, h5, hM, hg, h1, h2⟩ | ⟨v, hv, rfl⟩⟩ := rk_ex_inv he
    · obtain ⟨l', e1, e2⟩ := rk_stp_lv hl ht
      exact rk_ex_stp hix e2 (rk_ex_lv _ _ _ _ _ _ _ _ _ e1 h1)
    · exact rk_ex_obj hix hq hk h8 (rk_ex_lv _ _ _ _ _ _ _ _ _ hl h1)
    · exact rk_ex_max hix hq hk h8 (rk_ex_lv _ _ _ _ _ _ _ _ _ hl h1)
    · exact rk_ex_call hix hq h3 h5 hM hg h1 (rk_ex_lv _ _ _ _ _ _ _ _ _ hl h2)
    · exact rk_ex_ret hix hv
