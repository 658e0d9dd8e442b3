/-! what isn't a constructor makes nothing -/
def rk_na (i : Instr) : Bool := match i with
  | .new _ | .newarray _ | .anewarray _ | .multianewarray _ _ | .invokespecial _ => false
  | _ => true
theorem rk_stp_keep {M : rk_M} {pc : Nat} {lv : rk_L} {st : List Value} {h : rk_S} {i : Instr} {t : rk_T} (hn : rk_na i = true) (hs : rk_stp M pc lv st h i = some t) : t.2.2.2.length = h.length ∧ rk_sz t.2.2.2 = rk_sz h := by
  have same : t.2.2.2 = h → t.2.2.2.length = h.length ∧ rk_sz t.2.2.2 = rk_sz h := fun e => by rw [e]; exact ⟨rfl, rfl⟩
  have setc : ∀ (a : Nat) (q q' : Nat × List Value), h[a]? = some q → q'.2.length = q.2.length → t.2.2.2 = h.set a q' → t.2.2.2.length = h.length ∧ rk_sz t.2.2.2 = rk_sz h := fun a q q' h1 h2 e => by
    rw [e, List.length_set, rk_sz_set h1 h2]; exact ⟨rfl, rfl⟩
  cases i with
  | iconst n => cases hs; exact same rfl
  | bipush n => cases hs; exact same rfl
  | sipush n => cases hs; exact same rfl
  | ldc x => obtain ⟨v, h1, h2⟩ := Option.map_eq_some_iff.mp hs; subst h2; exact same rfl
  | ldc_w x => obtain ⟨v, h1, h2⟩ := Option.map_eq_some_iff.mp hs; subst h2; exact same rfl
  | iload_n x => obtain ⟨v, h1, h2⟩ := Option.map_eq_some_iff.mp hs; subst h2; exact same rfl
  | iload x => obtain ⟨v, h1, h2⟩ := Option.map_eq_some_iff.mp hs; subst h2; exact same rfl
  | aload_n x => obtain ⟨v, h1, h2⟩ := Option.map_eq_some_iff.mp hs; subst h2; exact same rfl
  | aload x => obtain ⟨v, h1, h2⟩ := Option.map_eq_some_iff.mp hs; subst h2; exact same rfl
  | istore_n k => obtain ⟨x, r, rfl, hk, rfl⟩ := rk_sti_ok hs; exact same rfl
  | istore k => obtain ⟨x, r, rfl, hk, rfl⟩ := rk_sti_ok hs; exact same rfl
  | astore_n k => obtain ⟨x, r, rfl, hk, rfl⟩ := rk_sta_ok hs; exact same rfl
  | astore k => obtain ⟨x, r, rfl, hk, rfl⟩ := rk_sta_ok hs; exact same rfl
  | iinc k n =>
    simp only [rk_stp] at hs
    split at hs
    · rw [cond_eq_ite] at hs
      split at hs
      · cases hs; exact same rfl
      · cases hs
    · cases hs
  | iadd => obtain ⟨x, y, r, rfl, rfl⟩ := rk_bin_ok hs; exact same rfl
  | isub => obtain ⟨x, y, r, rfl, rfl⟩ := rk_bin_ok hs; exact same rfl
  | imul => obtain ⟨x, y, r, rfl, rfl⟩ := rk_bin_ok hs; exact same rfl
  | iand => obtain ⟨x, y, r, rfl, rfl⟩ := rk_bin_ok hs; exact same rfl
  | ior => obtain ⟨x, y, r, rfl, rfl⟩ := rk_bin_ok hs; exact same rfl
  | ixor => obtain ⟨x, y, r, rfl, rfl⟩ := rk_bin_ok hs; exact same rfl
  | ishl => obtain ⟨x, y, r, rfl, rfl⟩ := rk_bin_ok hs; exact same rfl
  | ishr => obtain ⟨x, y, r, rfl, rfl⟩ := rk_bin_ok hs; exact same rfl
  | iushr => obtain ⟨x, y, r, rfl, rfl⟩ := rk_bin_ok hs; exact same rfl
  | idiv =>
    simp only [rk_stp] at hs
    split at hs
    · rw [cond_eq_ite] at hs
      split at hs
      · cases hs
      · cases hs; exact same rfl
    · cases hs
  | irem =>
    simp only [rk_stp] at hs
    split at hs
    · rw [cond_eq_ite] at hs
      split at hs
      · cases hs
      · cases hs; exact same rfl
    · cases hs
  | dup =>
    simp only [rk_stp] at hs
    split at hs
    · rw [cond_eq_ite] at hs
      split at hs
      · cases hs; exact same rfl
      · cases hs
    · cases hs
  | dup2 =>
    simp only [rk_stp] at hs
    split at hs
    · rw [cond_eq_ite] at hs
      split at hs
      · cases hs; exact same rfl
      · cases hs
    · cases hs
  | pop =>
    simp only [rk_stp] at hs
    split at hs
    · rw [cond_eq_ite] at hs
      split at hs
      · cases hs; exact same rfl
      · cases hs
    · cases hs
  | ifCond o off =>
    simp only [rk_stp] at hs
    split at hs
    · obtain ⟨v, h1, h2⟩ := Option.map_eq_some_iff.mp hs; subst h2; exact same rfl
    · cases hs
  | if_icmp o off =>
    simp only [rk_stp] at hs
    split at hs
    · obtain ⟨v, h1, h2⟩ := Option.map_eq_some_iff.mp hs; subst h2; exact same rfl
    · cases hs
  | goto off => obtain ⟨v, h1, h2⟩ := Option.map_eq_some_iff.mp hs; subst h2; exact same rfl
  | tableswitch d lo hi offs =>
    simp only [rk_stp, rk_sw] at hs
    split at hs
    · rw [cond_eq_ite] at hs
      split at hs
      · obtain ⟨v, h1, h2⟩ := Option.map_eq_some_iff.mp hs; subst h2; exact same rfl
      · split at hs
        · obtain ⟨v, h1, h2⟩ := Option.map_eq_some_iff.mp hs; subst h2; exact same rfl
        · cases hs
    · cases hs
  | getfield x => obtain ⟨a, r, f, q, v, rfl, hf, hq, hqf, hv, rfl⟩ := rk_gf_ok hs; exact same rfl
  | putfield x => obtain ⟨v, a, r, f, q, rfl, hf, hq, hqf, ha, hl, hfit, hfin, rfl⟩ := rk_pf_ok hs; exact setc a q _ hq (by simp) rfl
  | iaload => obtain ⟨j, a, r, q, v, rfl, hq, hk, hj, hv, rfl⟩ := rk_ald_ok (ok := fun k => Nat.beq k 9 || Nat.beq k 14) hs; exact same rfl
  | baload => obtain ⟨j, a, r, q, v, rfl, hq, hk, hj, hv, rfl⟩ := rk_ald_ok (ok := fun k => Nat.beq k 10) hs; exact same rfl
  | aaload => obtain ⟨j, a, r, q, v, rfl, hq, hk, hj, hv, rfl⟩ := rk_ald_ok (ok := fun k => Nat.beq k 11 || (Nat.beq k 12 || Nat.beq k 13)) hs; exact same rfl
  | iastore => obtain ⟨x, j, a, r, q, rfl, hq, hk, ha, hj, hlt, rfl⟩ := rk_ast_ok hs; exact setc a q _ hq (by simp) rfl
  | bastore => obtain ⟨x, j, a, r, q, rfl, hq, hk, ha, hj, hlt, rfl⟩ := rk_ast_ok hs; exact setc a q _ hq (by simp) rfl
  | aastore => obtain ⟨v, j, a, r, q, w, rfl, hq, hw, hk, ha, hj, hlt, rfl⟩ := rk_aas_ok hs; exact setc a q _ hq (by simp) rfl
  | arraylength =>
    simp only [rk_stp] at hs
    split at hs
    · split at hs
      · rw [cond_eq_ite] at hs
        split at hs
        · cases hs; exact same rfl
        · cases hs
      · cases hs
    · cases hs
  | new x => cases hn
  | newarray ty => cases hn
  | anewarray x => cases hn
  | multianewarray x dm => cases hn
  | _ => cases hs
def rk_nM (M : rk_M) : Bool := decide (M.1.name = "<init>") || M.2.2.2.2.2.all (fun q => rk_na q.2.1)
set_option maxRecDepth 100000 in
theorem rk_nM_ok : ∀ M ∈ rk_Ms, rk_nM M = true := by decide +kernel
def rk_nl (c : Nat) (q : Nat × Nat × Nat × Nat) : Bool := Nat.beq q.2.2.2 3 || (Nat.beq q.2.2.2 5 || (Nat.beq q.2.2.2 2 || match rk_m q.2.1 with | some M => decide (¬ M.1.name = "<init>") | none => false))
set_option maxRecDepth 100000 in
theorem rk_nl_ok : ∀ c, c < 12 → ∀ q ∈ rk_ml c, rk_nl c q = true := by decide +kernel
theorem rk_ex_keep : ∀ (n d : Nat) (M : rk_M) (pc : Nat) (lv : rk_L) (st : List Value) (h : rk_S) (o : Option Value × rk_S), M ∈ rk_Ms → ¬ M.1.name = "<init>" → rk_ex n d M pc lv st h = some o → o.2.length = h.length ∧ rk_sz o.2 = rk_sz h
  | 0, _, _, _, _, _, _, _, _, _, he => by cases he
  | n + 1, d, M, pc, lv, st, h, o, hM, hni, he => by
    obtain ⟨ix, hix, hcase⟩ := rk_ex_inv he
    have hna : rk_na ix.1 = true := by
      have h1 := rk_nM_ok M hM
      unfold rk_nM at h1
      rw [decide_eq_false hni, Bool.false_or] at h1
      exact List.all_eq_true.mp h1 _ (rk_find_mem hix)
    rcases hcase with ⟨t, ht, h1⟩ | ⟨q, d', a, r, hq, rfl, hk, rfl, h8, h1⟩ | ⟨q, d', x, y, r, hq, rfl, hk, rfl, h8, h1⟩ | ⟨q, d', M', ar, o', hq, rfl, h3, h5, hM', hg, h1, h2⟩ | ⟨v, hv, rfl⟩
    · have a1 := rk_stp_keep hna ht
      have a2 := rk_ex_keep _ _ _ _ _ _ _ _ hM hni h1
      exact ⟨a2.1.trans a1.1, a2.2.trans a1.2⟩
    · exact rk_ex_keep _ _ _ _ _ _ _ _ hM hni h1
    · exact rk_ex_keep _ _ _ _ _ _ _ _ hM hni h1
    · have hMm : M' ∈ rk_Ms := List.mem_of_getElem? hM'
      have hni' : ¬ M'.1.name = "<init>" := by
        obtain ⟨x, hx, hk⟩ := rk_inv_ok hq
        have h6 := rk_nl_ok _ (rk_P1_spec hM).1 _ hx
        unfold rk_nl at h6
        dsimp only at h6
        rw [hM', rk_nbeq h3, rk_nbeq h5] at h6
        have h2 : q.2.2 ≠ 2 := by
          rcases hk with ⟨-, z⟩ | ⟨-, z⟩ | ⟨z, -⟩
          · omega
          · omega
          · rw [z] at hna; cases hna
        rw [rk_nbeq h2] at h6
        exact of_decide_eq_true h6
      have a1 := rk_ex_keep _ _ _ _ _ _ _ _ hMm hni' h1
      have a2 := rk_ex_keep _ _ _ _ _ _ _ _ hM hni h2
      exact ⟨a2.1.trans a1.1, a2.2.trans a1.2⟩
    · exact ⟨rfl, rfl⟩
