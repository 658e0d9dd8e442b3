/-! new T[n][m], all instructions together, and a whole run -/
theorem rk_ad_add {E : rk_E} {n j : Nat} (h : 1 ≤ n) : rk_ad E (n + j) = rk_ad E n + j := by
  obtain ⟨k, rfl⟩ : ∃ k, n = k + 1 := ⟨n - 1, by omega⟩
  rw [show k + 1 + j = (k + j) + 1 by omega]
  show E.2.2.2.2 + (k + j) = E.2.2.2.2 + k + j
  omega
section RKX
variable {p : Program} {l : Launch} {e : Env} {R : Room} {s : State} {m : MethodId} {args : Array Value} {below : List Frame} {meth : Method} {c : Code} {Q : State → Prop}
variable {E : rk_E} {M : rk_M} {h0 : rk_S} {pc : Nat} {lv : rk_L} {h : rk_S} {ls : Array Slot} {H : Heap} {locs : List Loc} {cells slots : Nat} {r : List Value}
theorem rk_w_mnw (C : rk_C E M p s m args meth c) {x : Nat} {n k : Int32} (hf : rk_find (rk_kl M.2.2.2.2.1) x = some 13) (hn : ¬ n < 0) (hk : ¬ k < 0) (hN : n.toNatClampNeg ≤ 1000) (hM : k.toNatClampNeg ≤ 1000) (hd : decode M.2.1 pc = .ok (.multianewarray x 2, 4)) {g : rk_S} (hg : g = (13, (List.range n.toNatClampNeg).map (fun j => Value.ref (h.length + 1 + j))) :: List.replicate n.toNatClampNeg (9, List.replicate k.toNatClampNeg (Value.int 0))) (hr1 : (h ++ g).length ≤ h0.length + R.cells) (hr2 : rk_sz (h ++ g) ≤ rk_sz h0 + R.slots)
    (hZ : rk_Z E M h0 lv h ls H locs cells slots) (kk : rk_N p l e R s m args below meth c Q E M h0 (pc + 4, lv, .ref h.length :: r, h ++ g)) : W p l e R s m args below meth c H locs cells slots Q (F0 m pc ls (.int k :: .int n :: r.map (rk_v E))) := by
  obtain ⟨hx, hb, hml, hown, hts, hK, -, hc⟩ := C
  have hz4 := hZ.2.2.2.1
  have hz5 := hZ.2.2.2.2
  have hnx := hZ.2.1.next
  have hgl : g.length = 1 + n.toNatClampNeg := by rw [hg]; simp; omega
  have hgs : rk_sz g = n.toNatClampNeg + n.toNatClampNeg * k.toNatClampNeg := by rw [hg]; simp [rk_sz]
  rw [List.length_append, hgl] at hr1
  rw [rk_sz_app, hgs] at hr2
  have hck := rk_kl_ok _ hc _ (rk_find_mem hf)
  have hck : Cond.classLink (rk_cn M.2.2.2.2.1) x "[[I" ∈ lw_tbl := of_decide_eq_true hck
  intro T hT Xs
  obtain ⟨F, cA, comp, fA, fC, f1, hold, f2, hrow, X', step⟩ := rn_mna Xs hx hown (hts _ (rk_in hck rfl)) hK.2.2.2.2.2.2 (hts _ (rk_in rk_w0.2.1 rfl)) (g := F0 m pc ls (.int k :: .int n :: r.map (rk_v E))) rfl (by rw [hb]; exact hd) rfl hn hk hN hM (by omega) (by omega)
  obtain ⟨-, -, -, -, g3, -⟩ := hK.2.1 13 (by omega) (by omega)
  cases g3.symm.trans fA
  obtain ⟨-, -, -, -, g4, -⟩ := hK.2.1 9 (by omega) (by omega)
  cases g4.symm.trans fC
  rw [hT] at f1 hold f2 hrow
  have hZ1 := rk_Z_app (g := g) (H' := F.heap) hZ (by rw [f1, hgl]) hold (fun j q hj => by
    rw [hg] at hj
    cases j with
    | zero =>
      cases hj
      refine Or.inr (Or.inr ⟨by show 9 ≤ 13 ∧ 13 < 14; omega, ?_⟩)
      rw [Nat.add_zero, f2]
      congr 3
      dsimp only
      rw [List.map_map]
      apply List.map_congr_left
      intro j hj
      show Value.ref (H.size + 1 + j) = Value.ref (rk_ad E (h.length + 1 + j))
      congr 1
      rw [← hnx]
      have h1 := hZ.2.1.2.1
      rw [show h.length + 1 + j = h.length + (1 + j) by omega, rk_ad_add h1]
      exact Nat.add_assoc _ _ _
    | succ j =>
      rw [List.getElem?_cons_succ] at hj
      have hj2 : j < n.toNatClampNeg := by have := (List.getElem?_eq_some_iff.mp hj).1; simpa using this
      rw [List.getElem?_replicate, if_pos hj2] at hj
      cases hj
      refine Or.inr (Or.inr ⟨by show 9 ≤ 9 ∧ 9 < 14; omega, ?_⟩)
      rw [show H.size + (j + 1) = H.size + 1 + j by omega, hrow j hj2]
      dsimp only
      rw [rk_rep_v E _ _ rfl])
  rw [hgl, hgs] at hZ1
  have := kk _ _ _ _ _ hZ1
  dsimp only [List.map, rk_v] at this
  rw [hnx] at this
  obtain ⟨t, a1, b1⟩ := this F rfl X'
  refine ⟨t, step t ?_, b1⟩
  have e : T.heap.size = H.size := by rw [hT]
  rw [e]
  exact a1
theorem rk_cat1 {v : Value} (h : Nat.beq v.category 1 = true) : (rk_v E v).category = 1 := by rw [rk_v_cat]; exact Nat.eq_of_beq_eq_true h
theorem rk_ld (hZ : rk_Z E M h0 lv h ls H locs cells slots) {k : Nat} {v : Value} (hm : (k, v) ∈ lv) : ls[k]? = some (.val (rk_v E v)) := hZ.1.2.2 (k, rk_v E v) (List.mem_map.mpr ⟨(k, v), hm, rfl⟩)
theorem rk_Z_lv (hZ : rk_Z E M h0 lv h ls H locs cells slots) {lv' : rk_L} {ls' : Array Slot} (hl : lv_has ls' M.2.2.1 (lv'.map (rk_vp E))) : rk_Z E M h0 lv' h ls' H locs cells slots := ⟨hl, hZ.2⟩
set_option maxHeartbeats 4000000 in
/-- one instruction -/
theorem rk_stp_ok (C : rk_C E M p s m args meth c) {st : List Value} {i : Instr} {len : Nat} {t : rk_T} (hs : rk_stp M pc lv st h i = some t) (hd : decode M.2.1 pc = .ok (i, len)) (hlk : rk_lk i len = true) (hZ : rk_Z E M h0 lv h ls H locs cells slots) (hr1 : t.2.2.2.length ≤ h0.length + R.cells) (hr2 : rk_sz t.2.2.2 ≤ rk_sz h0 + R.slots)
    (kk : rk_N p l e R s m args below meth c Q E M h0 t) : W p l e R s m args below meth c H locs cells slots Q (F0 m pc ls (st.map (rk_v E))) := by
  have C0 := C
  obtain ⟨hx, hb, hml, hown, hts, hK, -, hc⟩ := C0
  cases i with
  | iconst n =>
    have e := Nat.eq_of_beq_eq_true hlk; subst e
    cases hs
    exact lv_iconst hx hb hd rfl (kk _ _ _ _ _ hZ)
  | bipush n =>
    have e := Nat.eq_of_beq_eq_true hlk; subst e
    cases hs
    exact lv_bipush hx hb hd rfl (kk _ _ _ _ _ hZ)
  | sipush n =>
    have e := Nat.eq_of_beq_eq_true hlk; subst e
    cases hs
    exact lv_sipush hx hb hd rfl (kk _ _ _ _ _ hZ)
  | ldc x =>
    have e := Nat.eq_of_beq_eq_true hlk; subst e
    obtain ⟨v, h1, h2⟩ := Option.map_eq_some_iff.mp hs
    subst h2
    exact lv_ldc hx hb hown (hts _ (rk_in (rk_cl_ok _ hc _ (rk_find_mem h1)) rfl)) hd (kk _ _ _ _ _ hZ)
  | ldc_w x =>
    have e := Nat.eq_of_beq_eq_true hlk; subst e
    obtain ⟨v, h1, h2⟩ := Option.map_eq_some_iff.mp hs
    subst h2
    exact lv_ldcw hx hb hown (hts _ (rk_in (rk_cl_ok _ hc _ (rk_find_mem h1)) rfl)) hd (kk _ _ _ _ _ hZ)
  | iload_n k =>
    have e := Nat.eq_of_beq_eq_true hlk; subst e
    obtain ⟨v, h1, h2⟩ := Option.map_eq_some_iff.mp hs
    subst h2
    exact lv_iload_n hx hb hd rfl (rk_ld hZ (rk_li_spec h1)) (kk _ _ _ _ _ hZ)
  | iload k =>
    have e := Nat.eq_of_beq_eq_true hlk; subst e
    obtain ⟨v, h1, h2⟩ := Option.map_eq_some_iff.mp hs
    subst h2
    exact lv_iload hx hb hd (rk_ld hZ (rk_li_spec h1)) (kk _ _ _ _ _ hZ)
  | aload_n k =>
    have e := Nat.eq_of_beq_eq_true hlk; subst e
    obtain ⟨v, h1, h2⟩ := Option.map_eq_some_iff.mp hs
    subst h2
    exact lv_aload_n hx hb hd rfl (rk_ld hZ (rk_lr_spec h1)) (kk _ _ _ _ _ hZ)
  | aload k =>
    have e := Nat.eq_of_beq_eq_true hlk; subst e
    obtain ⟨v, h1, h2⟩ := Option.map_eq_some_iff.mp hs
    subst h2
    exact lv_aload hx hb hd (rk_ld hZ (rk_lr_spec h1)) (kk _ _ _ _ _ hZ)
  | istore_n k =>
    have e := Nat.eq_of_beq_eq_true hlk; subst e
    obtain ⟨x, r, rfl, hk, rfl⟩ := rk_sti_ok hs
    exact lv_istore_n hx hb hd rfl hZ.1 hk (rk_up_map E lv k.val (.int x)).symm (fun ls' hl => kk _ _ _ _ _ (rk_Z_lv hZ hl))
  | istore k =>
    have e := Nat.eq_of_beq_eq_true hlk; subst e
    obtain ⟨x, r, rfl, hk, rfl⟩ := rk_sti_ok hs
    exact lv_istore hx hb hd hZ.1 hk (rk_up_map E lv k (.int x)).symm (fun ls' hl => kk _ _ _ _ _ (rk_Z_lv hZ hl))
  | astore_n k =>
    have e := Nat.eq_of_beq_eq_true hlk; subst e
    obtain ⟨x, r, rfl, hk, rfl⟩ := rk_sta_ok hs
    exact lv_astore_n hx hb hd rfl hZ.1 hk (rk_up_map E lv k.val (.ref x)).symm (fun ls' hl => kk _ _ _ _ _ (rk_Z_lv hZ hl))
  | astore k =>
    have e := Nat.eq_of_beq_eq_true hlk; subst e
    obtain ⟨x, r, rfl, hk, rfl⟩ := rk_sta_ok hs
    exact lv_astore hx hb hd hZ.1 hk (rk_up_map E lv k (.ref x)).symm (fun ls' hl => kk _ _ _ _ _ (rk_Z_lv hZ hl))
  | iinc k n =>
    have e := Nat.eq_of_beq_eq_true hlk; subst e
    simp only [rk_stp] at hs
    split at hs
    · rename_i x hx1
      rw [cond_eq_ite] at hs
      split at hs
      · rename_i hk
        cases hs
        obtain ⟨j, hj⟩ := List.getElem?_of_mem (List.mem_map.mpr ⟨_, rk_li_spec hx1, rfl⟩ : rk_vp E (k, .int x) ∈ lv.map (rk_vp E))
        exact lv_iinc hx hb hd hZ.1 hj rfl (Nat.blt_eq.mp hk) (rk_up_map E lv k (.int (x + Int32.ofInt n))).symm (fun ls' hl => kk _ _ _ _ _ (rk_Z_lv hZ hl))
      · cases hs
    · cases hs
  | iadd =>
    have e := Nat.eq_of_beq_eq_true hlk; subst e
    obtain ⟨x, y, r, rfl, rfl⟩ := rk_bin_ok hs
    exact lv_iadd hx hb hd (kk _ _ _ _ _ hZ)
  | isub =>
    have e := Nat.eq_of_beq_eq_true hlk; subst e
    obtain ⟨x, y, r, rfl, rfl⟩ := rk_bin_ok hs
    exact lv_isub hx hb hd (kk _ _ _ _ _ hZ)
  | imul =>
    have e := Nat.eq_of_beq_eq_true hlk; subst e
    obtain ⟨x, y, r, rfl, rfl⟩ := rk_bin_ok hs
    exact lv_imul hx hb hd (kk _ _ _ _ _ hZ)
  | iand =>
    have e := Nat.eq_of_beq_eq_true hlk; subst e
    obtain ⟨x, y, r, rfl, rfl⟩ := rk_bin_ok hs
    exact lv_iand hx hb hd (kk _ _ _ _ _ hZ)
  | ior =>
    have e := Nat.eq_of_beq_eq_true hlk; subst e
    obtain ⟨x, y, r, rfl, rfl⟩ := rk_bin_ok hs
    exact lv_ior hx hb hd (kk _ _ _ _ _ hZ)
  | ixor =>
    have e := Nat.eq_of_beq_eq_true hlk; subst e
    obtain ⟨x, y, r, rfl, rfl⟩ := rk_bin_ok hs
    exact lv_ixor hx hb hd (kk _ _ _ _ _ hZ)
  | ishl =>
    have e := Nat.eq_of_beq_eq_true hlk; subst e
    obtain ⟨x, y, r, rfl, rfl⟩ := rk_bin_ok hs
    exact lv_ishl hx hb hd (kk _ _ _ _ _ hZ)
  | ishr =>
    have e := Nat.eq_of_beq_eq_true hlk; subst e
    obtain ⟨x, y, r, rfl, rfl⟩ := rk_bin_ok hs
    exact lv_ishr hx hb hd (kk _ _ _ _ _ hZ)
  | iushr =>
    have e := Nat.eq_of_beq_eq_true hlk; subst e
    obtain ⟨x, y, r, rfl, rfl⟩ := rk_bin_ok hs
    exact lv_iushr hx hb hd rfl (kk _ _ _ _ _ hZ)
  | idiv =>
    have e := Nat.eq_of_beq_eq_true hlk; subst e
    simp only [rk_stp] at hs
    split at hs
    · rename_i y x r
      rw [cond_eq_ite] at hs
      split at hs
      · cases hs
      · rename_i hy
        cases hs
        exact lv_idiv hx hb hd (fun q => hy (decide_eq_true q)) (kk _ _ _ _ _ hZ)
    · cases hs
  | irem =>
    have e := Nat.eq_of_beq_eq_true hlk; subst e
    simp only [rk_stp] at hs
    split at hs
    · rename_i y x r
      rw [cond_eq_ite] at hs
      split at hs
      · cases hs
      · rename_i hy
        cases hs
        exact lv_irem hx hb hd (fun q => hy (decide_eq_true q)) (kk _ _ _ _ _ hZ)
    · cases hs
  | dup =>
    have e := Nat.eq_of_beq_eq_true hlk; subst e
    simp only [rk_stp] at hs
    split at hs
    · rename_i v r
      rw [cond_eq_ite] at hs
      split at hs
      · rename_i hv
        cases hs
        exact lv_dup hx hb hd (rk_cat1 hv) (kk _ _ _ _ _ hZ)
      · cases hs
    · cases hs
  | dup2 =>
    have e := Nat.eq_of_beq_eq_true hlk; subst e
    simp only [rk_stp] at hs
    split at hs
    · rename_i v w r
      rw [cond_eq_ite] at hs
      split at hs
      · rename_i hv
        rw [Bool.and_eq_true] at hv
        cases hs
        exact lv_dup2_11 hx hb hd (rk_cat1 hv.1) (rk_cat1 hv.2) (kk _ _ _ _ _ hZ)
      · cases hs
    · cases hs
  | pop =>
    have e := Nat.eq_of_beq_eq_true hlk; subst e
    simp only [rk_stp] at hs
    split at hs
    · rename_i v r
      rw [cond_eq_ite] at hs
      split at hs
      · rename_i hv
        cases hs
        exact lv_pop hx hb hd (rk_cat1 hv) (kk _ _ _ _ _ hZ)
      · cases hs
    · cases hs
  | ifCond o off =>
    have e := Nat.eq_of_beq_eq_true hlk; subst e
    simp only [rk_stp] at hs
    split at hs
    · rename_i x r
      obtain ⟨tg, h1, h2⟩ := Option.map_eq_some_iff.mp hs
      subst h2
      have hj := rk_jmp_spec h1
      cases o with
      | eq => exact lv_if_eq hx hb hd hj (fun q => by have := kk; rw [show rk_cmp .eq x 0 = true from decide_eq_true q] at this; exact this _ _ _ _ _ hZ) (fun q => by have := kk; rw [show rk_cmp .eq x 0 = false from decide_eq_false q] at this; exact this _ _ _ _ _ hZ)
      | ne => exact lv_if_ne hx hb hd hj (fun q => by have := kk; rw [show rk_cmp .ne x 0 = true from decide_eq_true q] at this; exact this _ _ _ _ _ hZ) (fun q => by have := kk; rw [show rk_cmp .ne x 0 = false from decide_eq_false (fun z => z q)] at this; exact this _ _ _ _ _ hZ)
      | lt => exact lv_if_lt hx hb hd hj (fun q => by have := kk; rw [show rk_cmp .lt x 0 = true from decide_eq_true q] at this; exact this _ _ _ _ _ hZ) (fun q => by have := kk; rw [show rk_cmp .lt x 0 = false from decide_eq_false q] at this; exact this _ _ _ _ _ hZ)
      | ge => exact lv_if_ge hx hb hd hj (fun q => by have := kk; rw [show rk_cmp .ge x 0 = true from decide_eq_true q] at this; exact this _ _ _ _ _ hZ) (fun q => by have := kk; rw [show rk_cmp .ge x 0 = false from decide_eq_false q] at this; exact this _ _ _ _ _ hZ)
      | gt => exact lv_if_gt hx hb hd hj (fun q => by have := kk; rw [show rk_cmp .gt x 0 = true from decide_eq_true q] at this; exact this _ _ _ _ _ hZ) (fun q => by have := kk; rw [show rk_cmp .gt x 0 = false from decide_eq_false q] at this; exact this _ _ _ _ _ hZ)
      | le => exact lv_if_le hx hb hd hj (fun q => by have := kk; rw [show rk_cmp .le x 0 = true from decide_eq_true q] at this; exact this _ _ _ _ _ hZ) (fun q => by have := kk; rw [show rk_cmp .le x 0 = false from decide_eq_false q] at this; exact this _ _ _ _ _ hZ)
    · cases hs
  | if_icmp o off =>
    have e := Nat.eq_of_beq_eq_true hlk; subst e
    simp only [rk_stp] at hs
    split at hs
    · rename_i y x r
      obtain ⟨tg, h1, h2⟩ := Option.map_eq_some_iff.mp hs
      subst h2
      have hj := rk_jmp_spec h1
      cases o with
      | eq => exact lv_icmp_eq hx hb hd hj (fun q => by have := kk; rw [show rk_cmp .eq x y = true from decide_eq_true q] at this; exact this _ _ _ _ _ hZ) (fun q => by have := kk; rw [show rk_cmp .eq x y = false from decide_eq_false q] at this; exact this _ _ _ _ _ hZ)
      | ne => exact lv_icmp_ne hx hb hd hj (fun q => by have := kk; rw [show rk_cmp .ne x y = true from decide_eq_true q] at this; exact this _ _ _ _ _ hZ) (fun q => by have := kk; rw [show rk_cmp .ne x y = false from decide_eq_false (fun z => z q)] at this; exact this _ _ _ _ _ hZ)
      | lt => exact lv_icmp_lt hx hb hd hj (fun q => by have := kk; rw [show rk_cmp .lt x y = true from decide_eq_true q] at this; exact this _ _ _ _ _ hZ) (fun q => by have := kk; rw [show rk_cmp .lt x y = false from decide_eq_false q] at this; exact this _ _ _ _ _ hZ)
      | ge => exact lv_icmp_ge hx hb hd hj (fun q => by have := kk; rw [show rk_cmp .ge x y = true from decide_eq_true q] at this; exact this _ _ _ _ _ hZ) (fun q => by have := kk; rw [show rk_cmp .ge x y = false from decide_eq_false q] at this; exact this _ _ _ _ _ hZ)
      | gt => exact lv_icmp_gt hx hb hd hj (fun q => by have := kk; rw [show rk_cmp .gt x y = true from decide_eq_true q] at this; exact this _ _ _ _ _ hZ) (fun q => by have := kk; rw [show rk_cmp .gt x y = false from decide_eq_false q] at this; exact this _ _ _ _ _ hZ)
      | le => exact lv_icmp_le hx hb hd hj (fun q => by have := kk; rw [show rk_cmp .le x y = true from decide_eq_true q] at this; exact this _ _ _ _ _ hZ) (fun q => by have := kk; rw [show rk_cmp .le x y = false from decide_eq_false q] at this; exact this _ _ _ _ _ hZ)
    · cases hs
  | goto off =>
    have e := Nat.eq_of_beq_eq_true hlk; subst e
    obtain ⟨tg, h1, h2⟩ := Option.map_eq_some_iff.mp hs
    subst h2
    exact lv_goto hx hb hd (rk_jmp_spec h1) (kk _ _ _ _ _ hZ)
  | tableswitch d lo hi offs =>
    simp only [rk_stp, rk_sw] at hs
    split at hs
    · rename_i x r
      rw [cond_eq_ite] at hs
      split at hs
      · rename_i hq
        obtain ⟨tg, h1, h2⟩ := Option.map_eq_some_iff.mp hs
        subst h2
        exact lv_tableOut hx hb hd (of_decide_eq_true hq) (rk_jmp_spec h1) (kk _ _ _ _ _ hZ)
      · rename_i hq
        have hq2 : ¬ (x.toInt < lo ∨ hi < x.toInt) := fun z => hq (decide_eq_true z)
        split at hs
        · rename_i o ho
          obtain ⟨tg, h1, h2⟩ := Option.map_eq_some_iff.mp hs
          subst h2
          exact lv_tableIn hx hb hd (fun z => hq2 (Or.inl z)) (fun z => hq2 (Or.inr z)) ho (rk_jmp_spec h1) (kk _ _ _ _ _ hZ)
        · cases hs
    · cases hs
  | getfield x =>
    have e := Nat.eq_of_beq_eq_true hlk; subst e
    obtain ⟨a, r, f, q, v, rfl, hf, hq, hqf, hv, rfl⟩ := rk_gf_ok hs
    exact rk_w_get C hf hq hqf hv hd hZ kk
  | putfield x =>
    have e := Nat.eq_of_beq_eq_true hlk; subst e
    obtain ⟨v, a, r, f, q, rfl, hf, hq, hqf, ha, hl, hfit, hfin, rfl⟩ := rk_pf_ok hs
    exact rk_w_put C hf hq hqf ha hl hfit hfin hd hZ kk
  | iaload =>
    have e := Nat.eq_of_beq_eq_true hlk; subst e
    obtain ⟨j, a, r, q, v, rfl, hq, hk, hj, hv, rfl⟩ := rk_ald_ok (ok := fun k => Nat.beq k 9 || Nat.beq k 14) hs
    simp only [Bool.or_eq_true, rk_beq] at hk
    exact rk_w_iald C hq hk hj hv hd hZ kk
  | baload =>
    have e := Nat.eq_of_beq_eq_true hlk; subst e
    obtain ⟨j, a, r, q, v, rfl, hq, hk, hj, hv, rfl⟩ := rk_ald_ok (ok := fun k => Nat.beq k 10) hs
    exact rk_w_zald C hq (Nat.eq_of_beq_eq_true hk) hj hv hd hZ kk
  | aaload =>
    have e := Nat.eq_of_beq_eq_true hlk; subst e
    obtain ⟨j, a, r, q, v, rfl, hq, hk, hj, hv, rfl⟩ := rk_ald_ok (ok := fun k => Nat.beq k 11 || (Nat.beq k 12 || Nat.beq k 13)) hs
    simp only [Bool.or_eq_true, rk_beq] at hk
    exact rk_w_aald C hq hk hj hv hd hZ kk
  | iastore =>
    have e := Nat.eq_of_beq_eq_true hlk; subst e
    obtain ⟨x, j, a, r, q, rfl, hq, hk, ha, hj, hlt, rfl⟩ := rk_ast_ok hs
    exact rk_w_iast C hq hk ha hj hlt hd hZ kk
  | bastore =>
    have e := Nat.eq_of_beq_eq_true hlk; subst e
    obtain ⟨x, j, a, r, q, rfl, hq, hk, ha, hj, hlt, rfl⟩ := rk_ast_ok hs
    exact rk_w_zast C hq hk ha hj hlt hd hZ kk
  | aastore =>
    have e := Nat.eq_of_beq_eq_true hlk; subst e
    obtain ⟨v, j, a, r, q, w, rfl, hq, hw, hk, ha, hj, hlt, rfl⟩ := rk_aas_ok hs
    exact rk_w_aast C hq hw hk ha hj hlt hd hZ kk
  | arraylength =>
    have e := Nat.eq_of_beq_eq_true hlk; subst e
    simp only [rk_stp] at hs
    split at hs
    · rename_i a r
      split at hs
      · rename_i q hq
        rw [cond_eq_ite] at hs
        split at hs
        · rename_i hk
          cases hs
          exact rk_w_alen C hq (Nat.eq_of_beq_eq_true hk) hd hZ kk
        · cases hs
      · cases hs
    · cases hs
  | new x =>
    have e := Nat.eq_of_beq_eq_true hlk; subst e
    obtain ⟨ci, hf, hci, rfl⟩ := rk_new_ok hs
    exact rk_w_new C hf hci hd hr1 hr2 hZ kk
  | newarray ty =>
    have e := Nat.eq_of_beq_eq_true hlk; subst e
    cases ty with
    | int =>
      obtain ⟨n, r, rfl, hn, hN, rfl⟩ := rk_nwa_ok (k := 9) hs
      exact rk_w_nwa C (Or.inl ⟨rfl, rfl⟩) hn hN hd hr1 hr2 hZ kk
    | boolean =>
      obtain ⟨n, r, rfl, hn, hN, rfl⟩ := rk_nwa_ok (k := 10) hs
      exact rk_w_nwa C (Or.inr ⟨rfl, rfl⟩) hn hN hd hr1 hr2 hZ kk
    | _ => cases hs
  | anewarray x =>
    have e := Nat.eq_of_beq_eq_true hlk; subst e
    obtain ⟨n, r, ci, rfl, hf, hci, hn, hN, rfl⟩ := rk_anw_ok hs
    exact rk_w_anw C hf hci hn hN hd hr1 hr2 hZ kk
  | multianewarray x dm =>
    have e := Nat.eq_of_beq_eq_true hlk; subst e
    obtain ⟨k, n, r, rfl, hf, rfl, hn, hk, hN, hM, rfl⟩ := rk_mnw_ok hs
    exact rk_w_mnw C hf hn hk hN hM hd rfl hr1 hr2 hZ kk
  | _ => cases hs
end RKX
