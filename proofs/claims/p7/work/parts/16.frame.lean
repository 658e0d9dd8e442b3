/-! a run over a heap whose cell 0 is a stranger's (kind 20: nothing reads it) is a run over any cell 0 -/
abbrev rk_x : Nat × List Value := (20, [])
theorem rk_x_get {h : rk_S} {a : Nat} {q : Nat × List Value} (c0 : Nat × List Value) (hq : (rk_x :: h)[a]? = some q) (hk : q.1 ≠ 20) : (c0 :: h)[a]? = some q ∧ 0 < a := by
  cases a with
  | zero => cases hq; exact absurd rfl hk
  | succ a => exact ⟨hq, Nat.succ_pos a⟩
theorem rk_x_set {h : rk_S} {a : Nat} {q' : Nat × List Value} (ha : 0 < a) : ∃ h', (rk_x :: h).set a q' = rk_x :: h' ∧ ∀ c0, (c0 :: h).set a q' = c0 :: h' := by
  cases a with
  | zero => omega
  | succ a => exact ⟨h.set a q', rfl, fun _ => rfl⟩
section RKX0
variable {M : rk_M} {pc : Nat} {lv : rk_L} {st : List Value} {h : rk_S} {t : rk_T}
theorem rk_flk {c : Nat} {x : Nat} {f : Nat × Nat × Nat × Bool × Bool} (hc : c < 12) (hf : rk_find (rk_fl c) x = some f) : f.1 < 9 := by
  have hck := rk_fl_ok _ hc _ (rk_find_mem hf)
  unfold rk_flc at hck
  split at hck
  · rename_i r0 hr0
    exact (List.getElem?_eq_some_iff.mp hr0).1
  · cases hck
set_option maxHeartbeats 4000000 in
theorem rk_stp0 (hc : M.2.2.2.2.1 < 12) {i : Instr} (hs : rk_stp M pc lv st (rk_x :: h) i = some t) : ∃ h', t.2.2.2 = rk_x :: h' ∧ ∀ c0, rk_stp M pc lv st (c0 :: h) i = some (t.1, t.2.1, t.2.2.1, c0 :: h') := by
  cases i with
  | iconst n => cases hs; exact ⟨h, rfl, fun _ => rfl⟩
  | bipush n => cases hs; exact ⟨h, rfl, fun _ => rfl⟩
  | sipush n => cases hs; exact ⟨h, rfl, fun _ => rfl⟩
  | ldc x => obtain ⟨v, h1, h2⟩ := Option.map_eq_some_iff.mp hs; subst h2; exact ⟨h, rfl, fun _ => by simp only [rk_stp, h1, Option.map_some]⟩
  | ldc_w x => obtain ⟨v, h1, h2⟩ := Option.map_eq_some_iff.mp hs; subst h2; exact ⟨h, rfl, fun _ => by simp only [rk_stp, h1, Option.map_some]⟩
  | iload_n x => obtain ⟨v, h1, h2⟩ := Option.map_eq_some_iff.mp hs; subst h2; exact ⟨h, rfl, fun _ => by simp only [rk_stp, h1, Option.map_some]⟩
  | iload x => obtain ⟨v, h1, h2⟩ := Option.map_eq_some_iff.mp hs; subst h2; exact ⟨h, rfl, fun _ => by simp only [rk_stp, h1, Option.map_some]⟩
  | aload_n x => obtain ⟨v, h1, h2⟩ := Option.map_eq_some_iff.mp hs; subst h2; exact ⟨h, rfl, fun _ => by simp only [rk_stp, h1, Option.map_some]⟩
  | aload x => obtain ⟨v, h1, h2⟩ := Option.map_eq_some_iff.mp hs; subst h2; exact ⟨h, rfl, fun _ => by simp only [rk_stp, h1, Option.map_some]⟩
  | istore_n k => obtain ⟨x, r, rfl, hk, rfl⟩ := rk_sti_ok hs; exact ⟨h, rfl, fun _ => by simp only [rk_stp, rk_sti, Nat.blt_eq.mpr hk, cond_true]⟩
  | istore k => obtain ⟨x, r, rfl, hk, rfl⟩ := rk_sti_ok hs; exact ⟨h, rfl, fun _ => by simp only [rk_stp, rk_sti, Nat.blt_eq.mpr hk, cond_true]⟩
  | astore_n k => obtain ⟨x, r, rfl, hk, rfl⟩ := rk_sta_ok hs; exact ⟨h, rfl, fun _ => by simp only [rk_stp, rk_sta, Nat.blt_eq.mpr hk, cond_true]⟩
  | astore k => obtain ⟨x, r, rfl, hk, rfl⟩ := rk_sta_ok hs; exact ⟨h, rfl, fun _ => by simp only [rk_stp, rk_sta, Nat.blt_eq.mpr hk, cond_true]⟩
  | iinc k n =>
    simp only [rk_stp] at hs ⊢
    split at hs
    · rename_i x hx
      rw [cond_eq_ite] at hs
      split at hs
      · rename_i hk
        cases hs
        exact ⟨h, rfl, fun _ => by simp only [hk, cond_true]⟩
      · cases hs
    · cases hs
  | iadd => obtain ⟨x, y, r, rfl, rfl⟩ := rk_bin_ok hs; exact ⟨h, rfl, fun _ => rfl⟩
  | isub => obtain ⟨x, y, r, rfl, rfl⟩ := rk_bin_ok hs; exact ⟨h, rfl, fun _ => rfl⟩
  | imul => obtain ⟨x, y, r, rfl, rfl⟩ := rk_bin_ok hs; exact ⟨h, rfl, fun _ => rfl⟩
  | iand => obtain ⟨x, y, r, rfl, rfl⟩ := rk_bin_ok hs; exact ⟨h, rfl, fun _ => rfl⟩
  | ior => obtain ⟨x, y, r, rfl, rfl⟩ := rk_bin_ok hs; exact ⟨h, rfl, fun _ => rfl⟩
  | ixor => obtain ⟨x, y, r, rfl, rfl⟩ := rk_bin_ok hs; exact ⟨h, rfl, fun _ => rfl⟩
  | ishl => obtain ⟨x, y, r, rfl, rfl⟩ := rk_bin_ok hs; exact ⟨h, rfl, fun _ => rfl⟩
  | ishr => obtain ⟨x, y, r, rfl, rfl⟩ := rk_bin_ok hs; exact ⟨h, rfl, fun _ => rfl⟩
  | iushr => obtain ⟨x, y, r, rfl, rfl⟩ := rk_bin_ok hs; exact ⟨h, rfl, fun _ => rfl⟩
  | idiv =>
    simp only [rk_stp] at hs ⊢
    split at hs
    · rw [cond_eq_ite] at hs
      split at hs
      · cases hs
      · rename_i hk
        cases hs
        exact ⟨h, rfl, fun _ => by simp only [Bool.not_eq_true _ ▸ hk, cond_false]⟩
    · cases hs
  | irem =>
    simp only [rk_stp] at hs ⊢
    split at hs
    · rw [cond_eq_ite] at hs
      split at hs
      · cases hs
      · rename_i hk
        cases hs
        exact ⟨h, rfl, fun _ => by simp only [Bool.not_eq_true _ ▸ hk, cond_false]⟩
    · cases hs
  | dup =>
    simp only [rk_stp] at hs ⊢
    split at hs
    · rw [cond_eq_ite] at hs
      split at hs
      · rename_i hk
        cases hs
        exact ⟨h, rfl, fun _ => by simp only [hk, cond_true]⟩
      · cases hs
    · cases hs
  | dup2 =>
    simp only [rk_stp] at hs ⊢
    split at hs
    · rw [cond_eq_ite] at hs
      split at hs
      · rename_i hk
        cases hs
        exact ⟨h, rfl, fun _ => by simp only [hk, cond_true]⟩
      · cases hs
    · cases hs
  | pop =>
    simp only [rk_stp] at hs ⊢
    split at hs
    · rw [cond_eq_ite] at hs
      split at hs
      · rename_i hk
        cases hs
        exact ⟨h, rfl, fun _ => by simp only [hk, cond_true]⟩
      · cases hs
    · cases hs
  | ifCond o off =>
    simp only [rk_stp] at hs ⊢
    split at hs
    · obtain ⟨v, h1, h2⟩ := Option.map_eq_some_iff.mp hs; subst h2; exact ⟨h, rfl, fun _ => by simp only [h1, Option.map_some]⟩
    · cases hs
  | if_icmp o off =>
    simp only [rk_stp] at hs ⊢
    split at hs
    · obtain ⟨v, h1, h2⟩ := Option.map_eq_some_iff.mp hs; subst h2; exact ⟨h, rfl, fun _ => by simp only [h1, Option.map_some]⟩
    · cases hs
  | goto off => obtain ⟨v, h1, h2⟩ := Option.map_eq_some_iff.mp hs; subst h2; exact ⟨h, rfl, fun _ => by simp only [rk_stp, h1, Option.map_some]⟩
  | tableswitch d lo hi offs =>
    simp only [rk_stp, rk_sw] at hs ⊢
    split at hs
    · rw [cond_eq_ite] at hs
      split at hs
      · rename_i hk
        obtain ⟨v, h1, h2⟩ := Option.map_eq_some_iff.mp hs
        subst h2
        exact ⟨h, rfl, fun _ => by simp only [hk, cond_true, h1, Option.map_some]⟩
      · rename_i hk
        split at hs
        · rename_i o ho
          obtain ⟨v, h1, h2⟩ := Option.map_eq_some_iff.mp hs
          subst h2
          exact ⟨h, rfl, fun _ => by simp only [Bool.not_eq_true _ ▸ hk, cond_false, ho, h1, Option.map_some]⟩
        · cases hs
    · cases hs
  | getfield x =>
    obtain ⟨a, r, f, q, v, rfl, hf, hq, hqf, hv, rfl⟩ := rk_gf_ok hs
    have hk : q.1 ≠ 20 := by have := rk_flk hc hf; omega
    refine ⟨h, rfl, fun c0 => ?_⟩
    simp only [rk_stp, rk_gf, hf, (rk_x_get c0 hq hk).1, rk_beq.mpr hqf, cond_true, hv, Option.map_some]
  | putfield x =>
    obtain ⟨v, a, r, f, q, rfl, hf, hq, hqf, ha, hl, hfit, hfin, rfl⟩ := rk_pf_ok hs
    have hk : q.1 ≠ 20 := by have := rk_flk hc hf; omega
    obtain ⟨h', e1, e2⟩ := rk_x_set (h := h) (a := a) (q' := (q.1, q.2.set f.2.1 v)) ha
    refine ⟨h', e1, fun c0 => ?_⟩
    have hcond : (Nat.beq q.1 f.1 && (Nat.blt 0 a && (Nat.blt f.2.1 q.2.length && (rk_fit f.2.2.1 v && (!f.2.2.2.1 || (!f.2.2.2.2 && (Nat.beq M.2.2.2.2.1 f.1 && decide (M.1.name = "<init>")))))))) = true := by
      simp only [Bool.and_eq_true, Bool.or_eq_true, Bool.not_eq_true', decide_eq_true_eq, rk_beq, Nat.blt_eq]
      exact ⟨hqf, ha, hl, hfit, hfin⟩
    simp only [rk_stp, rk_pf, hf, (rk_x_get c0 hq hk).1, hcond, cond_true, e2]
  | iaload =>
    obtain ⟨j, a, r, q, v, rfl, hq, hk, hj, hv, rfl⟩ := rk_ald_ok (ok := fun k => Nat.beq k 9 || Nat.beq k 14) hs
    have hk2 := hk
    simp only [Bool.or_eq_true, rk_beq] at hk2
    refine ⟨h, rfl, fun c0 => ?_⟩
    simp only [rk_stp, rk_ald, (rk_x_get c0 hq (by omega)).1, hk, decide_eq_false hj, Bool.not_false, Bool.and_true, cond_true, hv, Option.map_some]
  | baload =>
    obtain ⟨j, a, r, q, v, rfl, hq, hk, hj, hv, rfl⟩ := rk_ald_ok (ok := fun k => Nat.beq k 10) hs
    have hk2 := hk
    simp only [rk_beq] at hk2
    refine ⟨h, rfl, fun c0 => ?_⟩
    simp only [rk_stp, rk_ald, (rk_x_get c0 hq (by omega)).1, hk, decide_eq_false hj, Bool.not_false, Bool.and_true, cond_true, hv, Option.map_some]
  | aaload =>
    obtain ⟨j, a, r, q, v, rfl, hq, hk, hj, hv, rfl⟩ := rk_ald_ok (ok := fun k => Nat.beq k 11 || (Nat.beq k 12 || Nat.beq k 13)) hs
    have hk2 := hk
    simp only [Bool.or_eq_true, rk_beq] at hk2
    refine ⟨h, rfl, fun c0 => ?_⟩
    simp only [rk_stp, rk_ald, (rk_x_get c0 hq (by omega)).1, hk, decide_eq_false hj, Bool.not_false, Bool.and_true, cond_true, hv, Option.map_some]
  | iastore =>
    obtain ⟨x, j, a, r, q, rfl, hq, hk, ha, hj, hlt, rfl⟩ := rk_ast_ok (k := 9) (f := fun x => .int x) hs
    obtain ⟨h', e1, e2⟩ := rk_x_set (h := h) (a := a) (q' := (q.1, q.2.set j.toNatClampNeg (.int x))) ha
    refine ⟨h', e1, fun c0 => ?_⟩
    simp only [rk_stp, rk_ast, (rk_x_get c0 hq (by omega)).1, rk_beq.mpr hk, Nat.blt_eq.mpr ha, Nat.blt_eq.mpr hlt, decide_eq_false hj, Bool.not_false, Bool.and_true, cond_true, e2]
  | bastore =>
    obtain ⟨x, j, a, r, q, rfl, hq, hk, ha, hj, hlt, rfl⟩ := rk_ast_ok (k := 10) (f := fun x => narrow .boolean (.int x)) hs
    obtain ⟨h', e1, e2⟩ := rk_x_set (h := h) (a := a) (q' := (q.1, q.2.set j.toNatClampNeg (narrow .boolean (.int x)))) ha
    refine ⟨h', e1, fun c0 => ?_⟩
    simp only [rk_stp, rk_ast, (rk_x_get c0 hq (by omega)).1, rk_beq.mpr hk, Nat.blt_eq.mpr ha, Nat.blt_eq.mpr hlt, decide_eq_false hj, Bool.not_false, Bool.and_true, cond_true, e2]
  | aastore =>
    obtain ⟨v, j, a, r, q, w, rfl, hq, hw, hk, ha, hj, hlt, rfl⟩ := rk_aas_ok hs
    obtain ⟨h', e1, e2⟩ := rk_x_set (h := h) (a := a) (q' := (q.1, q.2.set j.toNatClampNeg (.ref v))) ha
    refine ⟨h', e1, fun c0 => ?_⟩
    have hcond : (((Nat.beq q.1 11 && Nat.beq w.1 0) || (Nat.beq q.1 12 && Nat.beq w.1 1)) && (Nat.blt 0 a && (!decide (j < 0) && Nat.blt j.toNatClampNeg q.2.length))) = true := by
      simp only [Bool.and_eq_true, Bool.or_eq_true, Bool.not_eq_true', decide_eq_false_iff_not, rk_beq, Nat.blt_eq]
      exact ⟨hk, ha, hj, hlt⟩
    simp only [rk_stp, rk_aas, (rk_x_get c0 hq (by omega)).1, (rk_x_get c0 hw (by omega)).1, hcond, cond_true, e2]
  | arraylength =>
    simp only [rk_stp] at hs ⊢
    split at hs
    · rename_i a r
      split at hs
      · rename_i q hq
        rw [cond_eq_ite] at hs
        split at hs
        · rename_i hk
          cases hs
          have hk2 := Nat.eq_of_beq_eq_true hk
          exact ⟨h, rfl, fun c0 => by simp only [(rk_x_get c0 hq (by omega)).1, hk, cond_true]⟩
        · cases hs
      · cases hs
    · cases hs
  | new x =>
    obtain ⟨ci, hf, hci, rfl⟩ := rk_new_ok hs
    exact ⟨h ++ [(ci, rk_df ci)], rfl, fun c0 => by simp only [rk_stp, rk_new, hf, Nat.blt_eq.mpr hci, cond_true]; rfl⟩
  | newarray ty =>
    cases ty with
    | int =>
      obtain ⟨n, r, rfl, hn, hN, rfl⟩ := rk_nwa_ok (k := 9) hs
      exact ⟨h ++ [(9, List.replicate n.toNatClampNeg (.int 0))], rfl, fun c0 => by simp only [rk_stp, rk_nwa, decide_eq_false hn, Nat.ble_eq_true_of_le hN, Bool.not_false, Bool.and_true, cond_true]; rfl⟩
    | boolean =>
      obtain ⟨n, r, rfl, hn, hN, rfl⟩ := rk_nwa_ok (k := 10) hs
      exact ⟨h ++ [(10, List.replicate n.toNatClampNeg (.int 0))], rfl, fun c0 => by simp only [rk_stp, rk_nwa, decide_eq_false hn, Nat.ble_eq_true_of_le hN, Bool.not_false, Bool.and_true, cond_true]; rfl⟩
    | _ => cases hs
  | anewarray x =>
    obtain ⟨n, r, ci, rfl, hf, hci, hn, hN, rfl⟩ := rk_anw_ok hs
    exact ⟨h ++ [(11 + ci, List.replicate n.toNatClampNeg .null)], rfl, fun c0 => by simp only [rk_stp, rk_anw, hf, Nat.blt_eq.mpr hci, decide_eq_false hn, Nat.ble_eq_true_of_le hN, Bool.not_false, Bool.and_true, cond_true]; rfl⟩
  | multianewarray x dm =>
    obtain ⟨k, n, r, rfl, hf, rfl, hn, hk, hN, hM, rfl⟩ := rk_mnw_ok hs
    exact ⟨h ++ ((13, (List.range n.toNatClampNeg).map (fun j => .ref ((rk_x :: h).length + 1 + j))) :: List.replicate n.toNatClampNeg (9, List.replicate k.toNatClampNeg (.int 0))), rfl, fun c0 => by simp only [rk_stp, rk_mnw, hf, Nat.beq, decide_eq_false hn, decide_eq_false hk, Nat.ble_eq_true_of_le hN, Nat.ble_eq_true_of_le hM, Bool.not_false, Bool.and_true, cond_true]; rfl⟩
  | _ => cases hs
end RKX0
theorem rk_go0 {M : rk_M} {na kd : Nat} {st : List Value} {h : rk_S} {ar : List Value × List Value} (hc : kd = 1 → M.2.2.2.2.1 < 9) (hk : kd = 0 ∨ kd = 4 ∨ kd = 1 ∨ kd = 2) (hg : rk_go M na kd st (rk_x :: h) = some ar) (c0 : Nat × List Value) : rk_go M na kd st (c0 :: h) = some ar := by
  unfold rk_go at hg ⊢
  rw [cond_eq_ite] at hg ⊢
  split at hg
  · rename_i hn
    rw [if_pos hn]
    rw [cond_eq_ite] at hg ⊢
    split at hg
    · rename_i h1
      rw [if_pos h1]
      exact hg
    · rename_i h1
      rw [if_neg h1]
      split at hg
      · rename_i b r hd
        split at hg
        · rename_i q hq
          rw [cond_eq_ite] at hg
          split at hg
          · rename_i h2
            cases b with
            | zero =>
              cases hq
              have h3 : kd = 2 := by
                simp only [Bool.or_eq_true, rk_beq] at h2
                rcases hk with e | e | e | e
                · exact absurd (by rw [e]; rfl) h1
                · exact absurd (by rw [e]; rfl) h1
                · have := hc e; omega
                · exact e
              subst h3
              exact hg
            | succ b =>
              rw [show (c0 :: h)[b + 1]? = some q from hq]
              dsimp only
              rw [h2]
              exact hg
          · cases hg
        · cases hg
      · cases hg
  · cases hg
theorem rk_ex0 : ∀ (n d : Nat) (M : rk_M) (pc : Nat) (lv : rk_L) (st : List Value) (h : rk_S) (o : Option Value × rk_S), M.2.2.2.2.1 < 12 → rk_ex n d M pc lv st (rk_x :: h) = some o → ∃ h', o.2 = rk_x :: h' ∧ ∀ c0, rk_ex n d M pc lv st (c0 :: h) = some (o.1, c0 :: h')
  | 0, _, _, _, _, _, _, _, _, he => by cases he
  | n + 1, d, M, pc, lv, st, h, o, hc, he => by
    obtain ⟨ix, hix, ⟨t, ht, h1⟩ | ⟨q, d', a, r, hq, rfl, hk, rfl, h8, h1⟩ | ⟨q, d', x, y, r, hq, rfl, hk, rfl, h8, h1⟩ | ⟨q, d', M', ar, o', hq, rfl, h3, h5, hM, hg, h1, h2⟩ | ⟨v, hv, rfl⟩⟩ := rk_ex_inv he
    · obtain ⟨h', e1, e2⟩ := rk_stp0 hc ht
      rw [e1] at h1
      obtain ⟨h'', f1, f2⟩ := rk_ex0 n d M t.1 t.2.1 t.2.2.1 h' o hc h1
      exact ⟨h'', f1, fun c0 => rk_ex_stp hix (e2 c0) (f2 c0)⟩
    · obtain ⟨h'', f1, f2⟩ := rk_ex0 n _ M _ lv r h o hc h1
      exact ⟨h'', f1, fun c0 => rk_ex_obj hix hq hk h8 (f2 c0)⟩
    · obtain ⟨h'', f1, f2⟩ := rk_ex0 n _ M _ lv _ h o hc h1
      exact ⟨h'', f1, fun c0 => rk_ex_max hix hq hk h8 (f2 c0)⟩
    · have hMm : M' ∈ rk_Ms := List.mem_of_getElem? hM
      obtain ⟨h', e1, e2⟩ := rk_ex0 n d' M' 0 _ [] h o' (rk_P1_spec hMm).1 h1
      rw [e1] at h2
      obtain ⟨h'', f1, f2⟩ := rk_ex0 n _ M _ lv _ h' o hc h2
      have hkd : q.2.2 = 0 ∨ q.2.2 = 4 ∨ q.2.2 = 1 ∨ q.2.2 = 2 := by
        obtain ⟨x, -, ⟨-, z⟩ | ⟨-, z⟩ | ⟨-, z⟩⟩ := rk_inv_ok hq <;> omega
      have hc9 : q.2.2 = 1 → M'.2.2.2.2.1 < 9 := by
        intro e1
        obtain ⟨x, hx, -⟩ := rk_inv_ok hq
        rcases rk_ml_ok _ hc _ hx with ⟨z, -⟩ | ⟨z, -⟩ | ⟨M2, hM2, -, hkind⟩
        · exact absurd z h3
        · exact absurd z h5
        · dsimp only at hM2 hkind
          cases hM.symm.trans hM2
          rcases hkind with ⟨z, -⟩ | ⟨z, -⟩ | ⟨-, -, -, -, z⟩ | ⟨z, -⟩
          · omega
          · omega
          · exact z
          · omega
      exact ⟨h'', f1, fun c0 => rk_ex_call hix hq h3 h5 hM (rk_go0 hc9 hkd hg c0) (e2 c0) (f2 c0)⟩
    · exact ⟨h, rfl, fun c0 => rk_ex_ret hix hv⟩
