/-! A WHOLE RUN of the pure machine is one of the real one. -/
theorem rk_stp_mono {M : rk_M} {pc : Nat} {lv : rk_L} {st : List Value} {h : rk_S} {i : Instr} {t : rk_T} (hs : rk_stp M pc lv st h i = some t) : h.length ≤ t.2.2.2.length ∧ rk_sz h ≤ rk_sz t.2.2.2 := by
  have same : t.2.2.2 = h → h.length ≤ t.2.2.2.length ∧ rk_sz h ≤ rk_sz t.2.2.2 := fun e => by rw [e]; exact ⟨Nat.le_refl _, Nat.le_refl _⟩
  have setc : ∀ (a : Nat) (q q' : Nat × List Value), h[a]? = some q → q'.2.length = q.2.length → t.2.2.2 = h.set a q' → h.length ≤ t.2.2.2.length ∧ rk_sz h ≤ rk_sz t.2.2.2 := fun a q q' h1 h2 e => by
    rw [e, List.length_set, rk_sz_set h1 h2]; exact ⟨Nat.le_refl _, Nat.le_refl _⟩
  have app : ∀ g : rk_S, t.2.2.2 = h ++ g → h.length ≤ t.2.2.2.length ∧ rk_sz h ≤ rk_sz t.2.2.2 := fun g e => by
    rw [e, List.length_append, rk_sz_app]; exact ⟨Nat.le_add_right _ _, Nat.le_add_right _ _⟩
  cases i with
  | iconst n => cases hs; exact same rfl
  | bipush n => cases hs; exact same rfl
  | sipush n => cases hs; exact same rfl
  | ldc x => obtain ⟨v, h1, h2⟩ := Option.map_eq_some_iff.mp hs; subst h2; exact same rfl
  | ldc_w x => obtain ⟨v, h1, h2⟩ := Option.map_eq_some_iff.mp hs; subst h2; exact same rfl
  | iload_n x => obtain ⟨v, h1, h2⟩ := Option.map_eq_some_iff.mp hs; subst h2; exact same rfl
  | iload x => obtain ⟨v, h1, h2⟩ := Option.map_eq_some_iff.mp hs; subst h2; exact same rfl
  | aload_n x => obtain ⟨v, h1, h2⟩ := Option.map_eq_some_iff.mp hs; subst h2; exact same rfl
  | aload x => obtain ⟨v, h1, h2⟩ := Option.map_eq_some_iff.mp hs; subst h2; exact same rfl
  | istore_n k => obtain ⟨x, r, rfl, hk, rfl⟩ := rk_sti_ok hs; exact same rfl
  | istore k => obtain ⟨x, r, rfl, hk, rfl⟩ := rk_sti_ok hs; exact same rfl
  | astore_n k => obtain ⟨x, r, rfl, hk, rfl⟩ := rk_sta_ok hs; exact same rfl
  | astore k => obtain ⟨x, r, rfl, hk, rfl⟩ := rk_sta_ok hs; exact same rfl
  | iinc k n =>
    simp only [rk_stp] at hs
    split at hs
    · rw [cond_eq_ite] at hs
      split at hs
      · cases hs; exact same rfl
      · cases hs
    · cases hs
  | iadd => obtain ⟨x, y, r, rfl, rfl⟩ := rk_bin_ok hs; exact same rfl
  | isub => obtain ⟨x, y, r, rfl, rfl⟩ := rk_bin_ok hs; exact same rfl
  | imul => obtain ⟨x, y, r, rfl, rfl⟩ := rk_bin_ok hs; exact same rfl
  | iand => obtain ⟨x, y, r, rfl, rfl⟩ := rk_bin_ok hs; exact same rfl
  | ior => obtain ⟨x, y, r, rfl, rfl⟩ := rk_bin_ok hs; exact same rfl
  | ixor => obtain ⟨x, y, r, rfl, rfl⟩ := rk_bin_ok hs; exact same rfl
  | ishl => obtain ⟨x, y, r, rfl, rfl⟩ := rk_bin_ok hs; exact same rfl
  | ishr => obtain ⟨x, y, r, rfl, rfl⟩ := rk_bin_ok hs; exact same rfl
  | iushr => obtain ⟨x, y, r, rfl, rfl⟩ := rk_bin_ok hs; exact same rfl
  | idiv =>
    simp only [rk_stp] at hs
    split at hs
    · rw [cond_eq_ite] at hs
      split at hs
      · cases hs
      · cases hs; exact same rfl
    · cases hs
  | irem =>
    simp only [rk_stp] at hs
    split at hs
    · rw [cond_eq_ite] at hs
      split at hs
      · cases hs
      · cases hs; exact same rfl
    · cases hs
  | dup =>
    simp only [rk_stp] at hs
    split at hs
    · rw [cond_eq_ite] at hs
      split at hs
      · cases hs; exact same rfl
      · cases hs
    · cases hs
  | dup2 =>
    simp only [rk_stp] at hs
    split at hs
    · rw [cond_eq_ite] at hs
      split at hs
      · cases hs; exact same rfl
      · cases hs
    · cases hs
  | pop =>
    simp only [rk_stp] at hs
    split at hs
    · rw [cond_eq_ite] at hs
      split at hs
      · cases hs; exact same rfl
      · cases hs
    · cases hs
  | ifCond o off =>
    simp only [rk_stp] at hs
    split at hs
    · obtain ⟨v, h1, h2⟩ := Option.map_eq_some_iff.mp hs; subst h2; exact same rfl
    · cases hs
  | if_icmp o off =>
    simp only [rk_stp] at hs
    split at hs
    · obtain ⟨v, h1, h2⟩ := Option.map_eq_some_iff.mp hs; subst h2; exact same rfl
    · cases hs
  | goto off => obtain ⟨v, h1, h2⟩ := Option.map_eq_some_iff.mp hs; subst h2; exact same rfl
  | tableswitch d lo hi offs =>
    simp only [rk_stp, rk_sw] at hs
    split at hs
    · rw [cond_eq_ite] at hs
      split at hs
      · obtain ⟨v, h1, h2⟩ := Option.map_eq_some_iff.mp hs; subst h2; exact same rfl
      · split at hs
        · obtain ⟨v, h1, h2⟩ := Option.map_eq_some_iff.mp hs; subst h2; exact same rfl
        · cases hs
    · cases hs
  | getfield x => obtain ⟨a, r, f, q, v, rfl, hf, hq, hqf, hv, rfl⟩ := rk_gf_ok hs; exact same rfl
  | putfield x => obtain ⟨v, a, r, f, q, rfl, hf, hq, hqf, ha, hl, hfit, hfin, rfl⟩ := rk_pf_ok hs; exact setc a q _ hq (by simp) rfl
  | iaload => obtain ⟨j, a, r, q, v, rfl, hq, hk, hj, hv, rfl⟩ := rk_ald_ok (ok := fun k => Nat.beq k 9 || Nat.beq k 14) hs; exact same rfl
  | baload => obtain ⟨j, a, r, q, v, rfl, hq, hk, hj, hv, rfl⟩ := rk_ald_ok (ok := fun k => Nat.beq k 10) hs; exact same rfl
  | aaload => obtain ⟨j, a, r, q, v, rfl, hq, hk, hj, hv, rfl⟩ := rk_ald_ok (ok := fun k => Nat.beq k 11 || (Nat.beq k 12 || Nat.beq k 13)) hs; exact same rfl
  | iastore => obtain ⟨x, j, a, r, q, rfl, hq, hk, ha, hj, hlt, rfl⟩ := rk_ast_ok hs; exact setc a q _ hq (by simp) rfl
  | bastore => obtain ⟨x, j, a, r, q, rfl, hq, hk, ha, hj, hlt, rfl⟩ := rk_ast_ok hs; exact setc a q _ hq (by simp) rfl
  | aastore => obtain ⟨v, j, a, r, q, w, rfl, hq, hw, hk, ha, hj, hlt, rfl⟩ := rk_aas_ok hs; exact setc a q _ hq (by simp) rfl
  | arraylength =>
    simp only [rk_stp] at hs
    split at hs
    · split at hs
      · rw [cond_eq_ite] at hs
        split at hs
        · cases hs; exact same rfl
        · cases hs
      · cases hs
    · cases hs
  | new x => obtain ⟨ci, hf, hci, rfl⟩ := rk_new_ok hs; exact app _ rfl
  | newarray ty =>
    cases ty with
    | int => obtain ⟨n, r, rfl, hn, hN, rfl⟩ := rk_nwa_ok (k := 9) hs; exact app _ rfl
    | boolean => obtain ⟨n, r, rfl, hn, hN, rfl⟩ := rk_nwa_ok (k := 10) hs; exact app _ rfl
    | _ => cases hs
  | anewarray x => obtain ⟨n, r, ci, rfl, hf, hci, hn, hN, rfl⟩ := rk_anw_ok hs; exact app _ rfl
  | multianewarray x dm => obtain ⟨k, n, r, rfl, hf, rfl, hn, hk, hN, hM, rfl⟩ := rk_mnw_ok hs; exact app _ rfl
  | _ => cases hs
/-- the ways in which a run goes on -/
theorem rk_ex_inv {n d : Nat} {M : rk_M} {pc : Nat} {lv : rk_L} {st : List Value} {h : rk_S} {o : Option Value × rk_S} (he : rk_ex (n + 1) d M pc lv st h = some o) : ∃ ix, rk_find M.2.2.2.2.2 pc = some ix ∧
    ((∃ t, rk_stp M pc lv st h ix.1 = some t ∧ rk_ex n d M t.1 t.2.1 t.2.2.1 t.2.2.2 = some o) ∨
     (∃ q d' a r, rk_inv M ix.1 = some q ∧ d = d' + 1 ∧ q.2.2 = 3 ∧ st = .ref a :: r ∧ (r.map fun v => v.category).sum ≤ 8 ∧ rk_ex n d M (pc + 3) lv r h = some o) ∨
     (∃ q d' x y r, rk_inv M ix.1 = some q ∧ d = d' + 1 ∧ q.2.2 = 5 ∧ st = .int y :: .int x :: r ∧ (r.map fun v => v.category).sum ≤ 8 ∧ rk_ex n d M (pc + 3) lv (.int (if x < y then y else x) :: r) h = some o) ∨
     (∃ q d' M' ar o', rk_inv M ix.1 = some q ∧ d = d' + 1 ∧ q.2.2 ≠ 3 ∧ q.2.2 ≠ 5 ∧ rk_m q.1 = some M' ∧ rk_go M' q.2.1 q.2.2 st h = some ar ∧ rk_ex n d' M' 0 (lv_args 0 ar.1) [] h = some o' ∧ rk_ex n d M (pc + 3) lv (o'.1.toList ++ ar.2) o'.2 = some o) ∨
     (∃ v, rk_ret M ix.1 st = some v ∧ o = (v, h))) := by
  rw [rk_ex] at he
  split at he
  · cases he
  · rename_i ix hix
    refine ⟨ix, hix, ?_⟩
    split at he
    · rename_i t ht
      exact Or.inl ⟨t, ht, he⟩
    · split at he
      · rename_i q hq
        split at he
        · cases he
        · rename_i d'
          rw [cond_eq_ite] at he
          split at he
          · rename_i h3
            split at he
            · rename_i a r _
              rw [cond_eq_ite] at he
              split at he
              · rename_i h8
                exact Or.inr (Or.inl ⟨q, d', a, r, hq, rfl, Nat.eq_of_beq_eq_true h3, rfl, Nat.le_of_ble_eq_true h8, he⟩)
              · cases he
            · cases he
          · rename_i h3
            rw [cond_eq_ite] at he
            split at he
            · rename_i h5
              split at he
              · rename_i y x r _
                rw [cond_eq_ite] at he
                split at he
                · rename_i h8
                  exact Or.inr (Or.inr (Or.inl ⟨q, d', x, y, r, hq, rfl, Nat.eq_of_beq_eq_true h5, rfl, Nat.le_of_ble_eq_true h8, he⟩))
                · cases he
              · cases he
            · rename_i h5
              split at he
              · cases he
              · rename_i M' hM'
                split at he
                · cases he
                · rename_i ar har
                  split at he
                  · cases he
                  · rename_i o' ho'
                    refine Or.inr (Or.inr (Or.inr (Or.inl ⟨q, d', M', ar, o', hq, rfl, fun z => h3 (by rw [z]; rfl), fun z => h5 (by rw [z]; rfl), hM', har, ho', he⟩)))
      · split at he
        · rename_i v hv
          cases he
          exact Or.inr (Or.inr (Or.inr (Or.inr ⟨v, hv, rfl⟩)))
        · cases he
theorem rk_ex_mono : ∀ (n d : Nat) (M : rk_M) (pc : Nat) (lv : rk_L) (st : List Value) (h : rk_S) (o : Option Value × rk_S), rk_ex n d M pc lv st h = some o → h.length ≤ o.2.length ∧ rk_sz h ≤ rk_sz o.2
  | 0, _, _, _, _, _, _, _, he => by cases he
  | n + 1, d, M, pc, lv, st, h, o, he => by
    obtain ⟨ix, -, ⟨t, ht, h1⟩ | ⟨q, d', a, r, -, -, -, -, -, h1⟩ | ⟨q, d', x, y, r, -, -, -, -, -, h1⟩ | ⟨q, d', M', ar, o', -, -, -, -, -, -, h1, h2⟩ | ⟨v, -, rfl⟩⟩ := rk_ex_inv he
    · have a1 := rk_stp_mono ht
      have a2 := rk_ex_mono _ _ _ _ _ _ _ _ h1
      exact ⟨Nat.le_trans a1.1 a2.1, Nat.le_trans a1.2 a2.2⟩
    · exact rk_ex_mono _ _ _ _ _ _ _ _ h1
    · exact rk_ex_mono _ _ _ _ _ _ _ _ h1
    · have a1 := rk_ex_mono _ _ _ _ _ _ _ _ h1
      have a2 := rk_ex_mono _ _ _ _ _ _ _ _ h2
      exact ⟨Nat.le_trans a1.1 a2.1, Nat.le_trans a1.2 a2.2⟩
    · exact ⟨Nat.le_refl _, Nat.le_refl _⟩
