/-! a cell stays of its kind -/
def rk_kk (h h' : rk_S) : Prop := ∀ (i : Nat) (q : Nat × List Value), h[i]? = some q → ∃ q', h'[i]? = some q' ∧ q'.1 = q.1
theorem rk_kk.refl (h : rk_S) : rk_kk h h := fun _ q hq => ⟨q, hq, rfl⟩
theorem rk_kk.trans {a b c : rk_S} (h1 : rk_kk a b) (h2 : rk_kk b c) : rk_kk a c := fun i q hq => by
  obtain ⟨q1, e1, f1⟩ := h1 i q hq
  obtain ⟨q2, e2, f2⟩ := h2 i q1 e1
  exact ⟨q2, e2, f2.trans f1⟩
theorem rk_stp_kind {M : rk_M} {pc : Nat} {lv : rk_L} {st : List Value} {h : rk_S} {i : Instr} {t : rk_T} (hs : rk_stp M pc lv st h i = some t) : rk_kk h t.2.2.2 := by
  have same : t.2.2.2 = h → rk_kk h t.2.2.2 := fun e => by rw [e]; exact rk_kk.refl h
  have setc : ∀ (a : Nat) (q q' : Nat × List Value), h[a]? = some q → q'.1 = q.1 → t.2.2.2 = h.set a q' → rk_kk h t.2.2.2 := fun a q q' h1 h2 e => by
    rw [e]
    intro i x hx
    by_cases z : a = i
    · subst z
      have hl : a < h.length := (List.getElem?_eq_some_iff.mp hx).1
      cases h1.symm.trans hx
      exact ⟨q', List.getElem?_set_self hl, h2⟩
    · exact ⟨x, by rw [List.getElem?_set_ne z]; exact hx, rfl⟩
  have app : ∀ g : rk_S, t.2.2.2 = h ++ g → rk_kk h t.2.2.2 := fun g e => by
    rw [e]
    intro i x hx
    exact ⟨x, by rw [List.getElem?_append_left (List.getElem?_eq_some_iff.mp hx).1]; exact hx, rfl⟩
  cases i with
  | iconst n => cases hs; exact same rfl
  | bipush n => cases hs; exact same rfl
  | sipush n => cases hs; exact same rfl
  | ldc x => obtain ⟨v, h1, h2⟩ := Option.map_eq_some_iff.mp hs; subst h2; exact same rfl
  | ldc_w x => obtain ⟨v, h1, h2⟩ := Option.map_eq_some_iff.mp hs; subst h2; exact same rfl
  | iload_n x => obtain ⟨v, h1, h2⟩ := Option.map_eq_some_iff.mp hs; subst h2; exact same rfl
  | iload x => obtain ⟨v, h1, h2⟩ := Option.map_eq_some_iff.mp hs; subst h2; exact same rfl
  | aload_n x => obtain ⟨v, h1, h2⟩ := Option.map_eq_some_iff.mp hs; subst h2; exact same rfl
  | aload x => obtain ⟨v, h1, h2⟩ := Option.map_eq_some_iff.mp hs; subst h2; exact same rfl
  | istore_n k => obtain ⟨x, r, rfl, hk, rfl⟩ := rk_sti_ok hs; exact same rfl
  | istore k => obtain ⟨x, r, rfl, hk, rfl⟩ := rk_sti_ok hs; exact same rfl
  | astore_n k => obtain ⟨x, r, rfl, hk, rfl⟩ := rk_sta_ok hs; exact same rfl
  | astore k => obtain ⟨x, r, rfl, hk, rfl⟩ := rk_sta_ok hs; exact same rfl
  | iinc k n =>
    simp only [rk_stp] at hs
    split at hs
    · rw [cond_eq_ite] at hs
      split at hs
      · cases hs; exact same rfl
      · cases hs
    · cases hs
  | iadd => obtain ⟨x, y, r, rfl, rfl⟩ := rk_bin_ok hs; exact same rfl
  | isub => obtain ⟨x, y, r, rfl, rfl⟩ := rk_bin_ok hs; exact same rfl
  | imul => obtain ⟨x, y, r, rfl, rfl⟩ := rk_bin_ok hs; exact same rfl
  | iand => obtain ⟨x, y, r, rfl, rfl⟩ := rk_bin_ok hs; exact same rfl
  | ior => obtain ⟨x, y, r, rfl, rfl⟩ := rk_bin_ok hs; exact same rfl
  | ixor => obtain ⟨x, y, r, rfl, rfl⟩ := rk_bin_ok hs; exact same rfl
  | ishl => obtain ⟨x, y, r, rfl, rfl⟩ := rk_bin_ok hs; exact same rfl
  | ishr => obtain ⟨x, y, r, rfl, rfl⟩ := rk_bin_ok hs; exact same rfl
  | iushr => obtain ⟨x, y, r, rfl, rfl⟩ := rk_bin_ok hs; exact same rfl
  | idiv =>
    simp only [rk_stp] at hs
    split at hs
    · rw [cond_eq_ite] at hs
      split at hs
      · cases hs
      · cases hs; exact same rfl
    · cases hs
  | irem =>
    simp only [rk_stp] at hs
    split at hs
    · rw [cond_eq_ite] at hs
      split at hs
      · cases hs
      · cases hs; exact same rfl
    · cases hs
  | dup =>
    simp only [rk_stp] at hs
    split at hs
    · rw [cond_eq_ite] at hs
      split at hs
      · cases hs; exact same rfl
      · cases hs
    · cases hs
  | dup2 =>
    simp only [rk_stp] at hs
    split at hs
    · rw [cond_eq_ite] at hs
      split at hs
      · cases hs; exact same rfl
      · cases hs
    · cases hs
  | pop =>
    simp only [rk_stp] at hs
    split at hs
    · rw [cond_eq_ite] at hs
      split at hs
      · cases hs; exact same rfl
      · cases hs
    · cases hs
  | ifCond o off =>
    simp only [rk_stp] at hs
    split at hs
    · obtain ⟨v, h1, h2⟩ := Option.map_eq_some_iff.mp hs; subst h2; exact same rfl
    · cases hs
  | if_icmp o off =>
    simp only [rk_stp] at hs
    split at hs
    · obtain ⟨v, h1, h2⟩ := Option.map_eq_some_iff.mp hs; subst h2; exact same rfl
    · cases hs
  | goto off => obtain ⟨v, h1, h2⟩ := Option.map_eq_some_iff.mp hs; subst h2; exact same rfl
  | tableswitch d lo hi offs =>
    simp only [rk_stp, rk_sw] at hs
    split at hs
    · rw [cond_eq_ite] at hs
      split at hs
      · obtain ⟨v, h1, h2⟩ := Option.map_eq_some_iff.mp hs; subst h2; exact same rfl
      · split at hs
        · obtain ⟨v, h1, h2⟩ := Option.map_eq_some_iff.mp hs; subst h2; exact same rfl
        · cases hs
    · cases hs
  | getfield x => obtain ⟨a, r, f, q, v, rfl, hf, hq, hqf, hv, rfl⟩ := rk_gf_ok hs; exact same rfl
  | putfield x => obtain ⟨v, a, r, f, q, rfl, hf, hq, hqf, ha, hl, hfit, hfin, rfl⟩ := rk_pf_ok hs; exact setc a q _ hq (by rfl) rfl
  | iaload => obtain ⟨j, a, r, q, v, rfl, hq, hk, hj, hv, rfl⟩ := rk_ald_ok (ok := fun k => Nat.beq k 9 || Nat.beq k 14) hs; exact same rfl
  | baload => obtain ⟨j, a, r, q, v, rfl, hq, hk, hj, hv, rfl⟩ := rk_ald_ok (ok := fun k => Nat.beq k 10) hs; exact same rfl
  | aaload => obtain ⟨j, a, r, q, v, rfl, hq, hk, hj, hv, rfl⟩ := rk_ald_ok (ok := fun k => Nat.beq k 11 || (Nat.beq k 12 || Nat.beq k 13)) hs; exact same rfl
  | iastore => obtain ⟨x, j, a, r, q, rfl, hq, hk, ha, hj, hlt, rfl⟩ := rk_ast_ok hs; exact setc a q _ hq (by rfl) rfl
  | bastore => obtain ⟨x, j, a, r, q, rfl, hq, hk, ha, hj, hlt, rfl⟩ := rk_ast_ok hs; exact setc a q _ hq (by rfl) rfl
  | aastore => obtain ⟨v, j, a, r, q, w, rfl, hq, hw, hk, ha, hj, hlt, rfl⟩ := rk_aas_ok hs; exact setc a q _ hq (by rfl) rfl
  | arraylength =>
    simp only [rk_stp] at hs
    split at hs
    · split at hs
      · rw [cond_eq_ite] at hs
        split at hs
        · cases hs; exact same rfl
        · cases hs
      · cases hs
    · cases hs
  | new x => obtain ⟨ci, hf, hci, rfl⟩ := rk_new_ok hs; exact app _ rfl
  | newarray ty =>
    cases ty with
    | int => obtain ⟨n, r, rfl, hn, hN, rfl⟩ := rk_nwa_ok (k := 9) hs; exact app _ rfl
    | boolean => obtain ⟨n, r, rfl, hn, hN, rfl⟩ := rk_nwa_ok (k := 10) hs; exact app _ rfl
    | _ => cases hs
  | anewarray x => obtain ⟨n, r, ci, rfl, hf, hci, hn, hN, rfl⟩ := rk_anw_ok hs; exact app _ rfl
  | multianewarray x dm => obtain ⟨k, n, r, rfl, hf, rfl, hn, hk, hN, hM, rfl⟩ := rk_mnw_ok hs; exact app _ rfl
  | _ => cases hs
theorem rk_ex_kind : ∀ (n d : Nat) (M : rk_M) (pc : Nat) (lv : rk_L) (st : List Value) (h : rk_S) (o : Option Value × rk_S), rk_ex n d M pc lv st h = some o → rk_kk h o.2
  | 0, _, _, _, _, _, _, _, he => by cases he
  | n + 1, d, M, pc, lv, st, h, o, he => by
    obtain ⟨ix, -, ⟨t, ht, h1⟩ | ⟨q, d', a, r, -, -, -, -, -, h1⟩ | ⟨q, d', x, y, r, -, -, -, -, -, h1⟩ | ⟨q, d', M', ar, o', -, -, -, -, -, -, h1, h2⟩ | ⟨v, -, rfl⟩⟩ := rk_ex_inv he
    · exact (rk_stp_kind ht).trans (rk_ex_kind _ _ _ _ _ _ _ _ h1)
    · exact rk_ex_kind _ _ _ _ _ _ _ _ h1
    · exact rk_ex_kind _ _ _ _ _ _ _ _ h1
    · exact (rk_ex_kind _ _ _ _ _ _ _ _ h1).trans (rk_ex_kind _ _ _ _ _ _ _ _ h2)
    · exact rk_kk.refl _
