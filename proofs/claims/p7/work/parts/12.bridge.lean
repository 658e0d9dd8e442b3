/-- a run from anywhere in M: the machine comes to M's return, with the pure machine's answer and cells -/
def rk_Run (n : Nat) : Prop := ∀ (p : Program) (l : Launch) (e : Env) (R : Room) (s : State) (m : MethodId) (args : Array Value) (below : List Frame) (meth : Method) (c : Code) (Q : State → Prop) (E : rk_E) (M : rk_M) (h0 : rk_S) (d pc : Nat) (lv : rk_L) (st : List Value) (h : rk_S) (o : Option Value × rk_S) (ls : Array Slot) (H : Heap) (locs : List Loc) (cells slots : Nat),
  rk_ex n d M pc lv st h = some o → rk_C E M p s m args meth c → (∀ q ∈ M.2.2.2.2.2, decode M.2.1 q.1 = .ok q.2 ∧ rk_lk q.2.1 q.2.2 = true) → d ≤ R.frames → 40 * d ≤ R.locals → o.2.length ≤ h0.length + R.cells → rk_sz o.2 ≤ rk_sz h0 + R.slots → rk_Z E M h0 lv h ls H locs cells slots →
  (∀ (pc' : Nat) (i' : Instr) (lv' : rk_L) (st' : List Value) (ls' : Array Slot) (H' : Heap) (locs' : List Loc) (cells' slots' : Nat), decode M.2.1 pc' = .ok (i', 1) → rk_ret M i' st' = some o.1 → rk_Z E M h0 lv' o.2 ls' H' locs' cells' slots' → W p l e R s m args below meth c H' locs' cells' slots' Q (F0 m pc' ls' (st'.map (rk_v E)))) →
  W p l e R s m args below meth c H locs cells slots Q (F0 m pc ls (st.map (rk_v E)))
theorem rk_P1_spec {M : rk_M} (hM : M ∈ rk_Ms) : M.2.2.2.2.1 < 12 ∧ rk_cn M.2.2.2.2.1 = M.1.cls ∧ plainName M.1.cls = true ∧ M.1.cls ≠ "java/lang/invoke/MethodHandle" ∧ M.1.cls ≠ "java/lang/invoke/VarHandle" ∧ Cond.initialized M.1.cls ∈ lw_tbl := by
  have h := rk_P1_ok M hM
  unfold rk_P1 at h
  simp only [Bool.and_eq_true, Nat.blt_eq, decide_eq_true_eq] at h
  exact h
theorem rk_cn_cl : ∀ (ci : Nat) (rr : vw_C), vwCl[ci]? = some rr → rk_cn ci = rr.1 := by
  intro ci rr hrr
  have hh : ∀ ci, ci < 9 → ∀ rr ∈ vwCl[ci]?, rk_cn ci = rr.1 := by decide +kernel
  exact hh ci (List.getElem?_eq_some_iff.mp hrr).1 rr hrr
theorem rk_vw_some {ci : Nat} (h : ci < 9) : ∃ rr, vwCl[ci]? = some rr := ⟨_, List.getElem?_eq_getElem (l := vwCl) h⟩
set_option maxHeartbeats 2000000 in
theorem rk_met_of {n : Nat} (hn : rk_Run n) : rk_Met n := by
  intro l E d M av h o hM hlen he
  obtain ⟨hc12, hcn, hpl, hmh, hvh, hini⟩ := rk_P1_spec hM
  obtain ⟨hcode, hdec⟩ := rk_P0_ok M hM
  have hmono := rk_ex_mono _ _ _ _ _ _ _ _ he
  refine Met.ofW (cc := M.2.1) (maxL := M.2.2.1) (ret := M.2.2.2.1) hpl rfl ?_
  intro p e s m args below meth c s₁ B hml hv
  obtain ⟨rfl, hP, hK⟩ := hv
  have hx := B.exec
  have hb := B.bytes
  have hr := B.returns
  have hts0 := atoms_spec (ws := rk_ws M) B.pre
  have hts : ∀ w ∈ rk_W, w.before (av.map (rk_v E)).toArray s = true := fun w hw => hts0 w (List.mem_cons_of_mem _ hw)
  have hown : s.vm.findClass M.1.cls = some m.cls := findClass_of_methodNamed B.named
  have hlocks := B.notSynchronized
  have hin : M.1.name = "<init>" → meth.name = "<init>" := fun z => (name_of_methodNamed B.named B.method).1.trans z
  have hl := lv_entry (av.map (rk_v E)) (n := M.2.2.1) (by rw [rk_sl_len]; exact hlen)
  rw [lg_entry_eq]
  generalize (lg_sl (av.map (rk_v E)) ++ List.replicate (M.2.2.1 - (lg_sl (av.map (rk_v E))).length) Slot.unset).toArray = ls at hl ⊢
  rw [← rk_args_map] at hl
  refine hn p l e _ s m _ below meth c _ E M h d 0 (lv_args 0 av) [] h o ls s.heap [] 0 0 he ⟨hx, hb, hml, by rw [hcn]; exact hown, hts, hK, hin, hc12⟩ hdec (Nat.le_refl d) (Nat.le_refl (40 * d)) (by show o.2.length ≤ h.length + (o.2.length - h.length); omega) (by show rk_sz o.2 ≤ rk_sz h + (rk_sz o.2 - rk_sz h); omega) ⟨hl, hP, (fun q hq => by cases hq), rfl, rfl⟩ ?_
  intro pc' i' lv' st' ls' H' locs' cells' slots' hd hret hZ
  obtain ⟨z1, z2, z3, z4, z5⟩ := hZ
  have ec : cells' = o.2.length - h.length := by omega
  have es : slots' = rk_sz o.2 - rk_sz h := by omega
  subst ec
  subst es
  unfold rk_ret at hret
  split at hret
  · split at hret
    · rename_i v
      split at hret
      · rename_i hrt
        have ho : some (Value.int v) = o.1 := Option.some.inj hret
        exact W.iret (v := v) hx hb (by rw [hr, hrt]) (fun t ht hW => ⟨by rw [← ho]; rfl, by rw [ht]; exact z2⟩) z3 hd hlocks
      · rename_i hrt
        rw [cond_eq_ite] at hret
        split at hret
        · rename_i hv
          simp only [Bool.or_eq_true, decide_eq_true_eq] at hv
          have ho : some (Value.int v) = o.1 := Option.some.inj hret
          refine W.zret (v := v) (ty := .boolean) hx hb (by rw [hr, hrt]) (by rcases hv with hv | hv <;> subst hv <;> rfl) (fun t ht hW => ⟨by rw [← ho]; rfl, by rw [ht]; exact z2⟩) z3 hd hlocks
        · cases hret
      · cases hret
    · cases hret
  · split at hret
    · rename_i a
      split at hret
      · rename_i nm hrt
        have ho : some (Value.ref a) = o.1 := Option.some.inj hret
        exact W.aret (v := rk_v E (.ref a)) (rt := .object nm) hx hb (by rw [hr, hrt]) (Or.inl ⟨nm, rfl⟩) (Or.inr ⟨_, rfl⟩) (fun t ht hW => ⟨by rw [← ho]; rfl, by rw [ht]; exact z2⟩) z3 hd hlocks
      · cases hret
    · cases hret
  · split at hret
    · split at hret
      · rename_i hrt
        have ho : none = o.1 := Option.some.inj hret
        exact W.vret hx hb (by rw [hr, hrt]) (fun t ht hW => ⟨by rw [← ho]; rfl, by rw [ht]; exact z2⟩) z3 hd hlocks
      · cases hret
    · cases hret
  · cases hret
theorem rk_ret_len {M : rk_M} {i : Instr} {st : List Value} {v : Option Value} {len : Nat} (h : rk_ret M i st = some v) (hl : rk_lk i len = true) : len = 1 := by
  unfold rk_ret at h
  split at h
  · exact Nat.eq_of_beq_eq_true hl
  · exact Nat.eq_of_beq_eq_true hl
  · exact Nat.eq_of_beq_eq_true hl
  · cases h
theorem rk_st_map (E : rk_E) (o : Option Value) (r : List Value) : (o.toList ++ r).map (rk_v E) = (o.map (rk_v E)).toList ++ r.map (rk_v E) := by cases o <;> simp
set_option maxHeartbeats 4000000 in
theorem rk_run_all : ∀ n, rk_Run n
  | 0 => fun p l e R s m args below meth c Q E M h0 d pc lv st h o ls H locs cells slots he => by cases he
  | n + 1 => by
    have ih := rk_run_all n
    have im := rk_met_of ih
    intro p l e R s m args below meth c Q E M h0 d pc lv st h o ls H locs cells slots he C hdec hd1 hd2 hc1 hc2 hZ kret
    have C0 := C
    obtain ⟨hx, hb, hml, hown, hts, hK, hin, hc12⟩ := C0
    obtain ⟨ix, hix, hcase⟩ := rk_ex_inv he
    obtain ⟨hdg, hlk⟩ := hdec _ (rk_find_mem hix)
    dsimp only at hdg hlk
    have hdg : decode M.2.1 pc = .ok (ix.1, ix.2) := hdg
    have hz4 := hZ.2.2.2.1
    have hz5 := hZ.2.2.2.2
    have hlsz : ls.size = M.2.2.1 := hZ.1.1
    rcases hcase with ⟨t, ht, h1⟩ | ⟨q, d', a, r, hq, rfl, hk3, rfl, h8, h1⟩ | ⟨q, d', x, y, r, hq, rfl, hk5, rfl, h8, h1⟩ | ⟨q, d', M', ar, o', hq, rfl, hk3, hk5, hM', hgo, h1, h2⟩ | ⟨v, hv, rfl⟩
    · have hm := rk_ex_mono _ _ _ _ _ _ _ _ h1
      exact rk_stp_ok C ht hdg hlk hZ (Nat.le_trans hm.1 hc1) (Nat.le_trans hm.2 hc2) (fun ls' H' locs' cells' slots' hZ' => ih p l e R s m args below meth c Q E M h0 d t.1 t.2.1 t.2.2.1 t.2.2.2 o ls' H' locs' cells' slots' h1 C hdec hd1 hd2 hc1 hc2 hZ' kret)
    · obtain ⟨x, hx1, hx2⟩ := rk_inv_ok hq
      rcases hx2 with ⟨-, hx2⟩ | ⟨-, hx2⟩ | ⟨hi, -⟩
      · omega
      · omega
      · rw [hi] at hdg hlk
        have el : ix.2 = 3 := Nat.eq_of_beq_eq_true hlk
        rw [el] at hdg
        rcases rk_ml_ok _ hc12 _ hx1 with ⟨-, hw⟩ | ⟨z, -⟩ | ⟨_, _, _, z⟩
        · have hrm := lv_room (m := m) (pc := pc) (ls := ls) (rest := (Value.ref a :: r).map (rk_v E)) (st := r.map (rk_v E)) (by rw [rk_cat_sum]; exact h8)
          exact W.objInit hx hb hown (hts _ (rk_in hw rfl)) (hts _ (rk_in rk_w0.1 rfl)) (hts _ (rk_in rk_oc.1 rfl)) rfl (by rw [hml]; exact hlsz) rfl hdg (by omega) (by omega) (ih p l e R s m args below meth c Q E M h0 _ (pc + 3) lv r h o ls H locs cells slots h1 C hdec hd1 hd2 hc1 hc2 hZ kret)
        · dsimp only at z; omega
        · dsimp only at z; omega
    · obtain ⟨x1, hx1, hx2⟩ := rk_inv_ok hq
      rcases hx2 with ⟨hi, -⟩ | ⟨-, hx2⟩ | ⟨-, hx2⟩
      · rw [hi] at hdg hlk
        have el : ix.2 = 3 := Nat.eq_of_beq_eq_true hlk
        rw [el] at hdg
        have hm := rk_ex_mono _ _ _ _ _ _ _ _ h1
        rcases rk_ml_ok _ hc12 _ hx1 with ⟨z, -⟩ | ⟨-, hw⟩ | ⟨_, _, _, z⟩
        · dsimp only at z; omega
        · have hsum : ((r.map (rk_v E)).map fun v => v.category).sum ≤ 8 := by rw [rk_cat_sum]; exact h8
          exact va_mmax hx hb (by rw [hml, hlsz]) hown (hts _ (rk_in hw rfl)) (hts _ (rk_in rk_w1.1 rfl)) (hts _ (rk_in rk_w1.2 rfl)) (hts _ (rk_in rk_oc.2 rfl)) (by omega) (by omega) (by omega) (by omega) hdg (ih p l e R s m args below meth c Q E M h0 _ (pc + 3) lv (.int (if x < y then y else x) :: r) h o ls H locs cells slots h1 C hdec hd1 hd2 hc1 hc2 hZ kret)
        · dsimp only at z; omega
      · omega
      · omega
    · obtain ⟨x, hx1, hx2⟩ := rk_inv_ok hq
      have hMm : M' ∈ rk_Ms := List.mem_of_getElem? hM'
      obtain ⟨hc12', hcn', hpl', hmh', hvh', hini'⟩ := rk_P1_spec hMm
      obtain ⟨g1, g2, g3, hgc⟩ := rk_go_ok hgo
      have hMet := im l E d' M' ar.1 h o' hMm g2 h1
      have hm1 := rk_ex_mono _ _ _ _ _ _ _ _ h1
      have hm2 := rk_ex_mono _ _ _ _ _ _ _ _ h2
      have hsum : ((ar.2.map (rk_v E)).map fun v => v.category).sum ≤ 8 := by rw [rk_cat_sum]; exact g1
      have hf : cells + (o'.2.length - h.length) ≤ R.cells ∧ slots + (rk_sz o'.2 - rk_sz h) ≤ R.slots := by omega
      have hR : (rk_rm d' h o'.2).frames + 1 ≤ R.frames ∧ 8 + (M'.2.2.1 + 11) + (rk_rm d' h o'.2).locals ≤ R.locals := by
        show d' + 1 ≤ R.frames ∧ 8 + (M'.2.2.1 + 11) + 40 * d' ≤ R.locals
        omega
      have hPre : ∀ U : State, U.heap = H → s.WarmedH U.vm → rk_Pc E ar.1 h (ar.1.map (rk_v E)).toArray U := fun U hU hW => ⟨rfl, by rw [hU]; exact hZ.2.1, hK.moved hW⟩
      have fix : CallFix p m c M.2.1 M.2.2.1 s args rk_W (rk_cn M.2.2.2.2.1) := ⟨hx, hb, hml, hown, hts⟩
      have hI : (Cond.initialized M'.1.cls).before args s = true := hts _ (rk_in hini' rfl)
      have done : va_Run p l e R s m args below meth c H locs cells slots (o'.2.length - h.length) (rk_sz o'.2 - rk_sz h) (F0 m pc ls (st.map (rk_v E))) (ar.2.map (rk_v E)) (rk_Qc E o' (ar.1.map (rk_v E)).toArray) (rk_fr E) → W p l e R s m args below meth c H locs cells slots Q (F0 m pc ls (st.map (rk_v E))) := by
        intro hrun
        refine rk_call hrun fun H1 locs1 hP1 hl1 => ?_
        have := ih p l e R s m args below meth c Q E M h0 _ (pc + 3) lv (o'.1.toList ++ ar.2) o'.2 o ls H1 locs1 (cells + (o'.2.length - h.length)) (slots + (rk_sz o'.2 - rk_sz h)) h2 C hdec hd1 hd2 hc1 hc2 ⟨hZ.1, hP1, fun q hq => (hl1 q hq).elim (fun z => hZ.2.2.1 q z) id, by omega, by omega⟩ kret
        rw [rk_st_map] at this
        exact this
      apply done
      rcases rk_ml_ok _ hc12 _ hx1 with ⟨z, -⟩ | ⟨z, -⟩ | ⟨M2, hM2, hpar, hkind⟩
      · exact absurd z hk3
      · exact absurd z hk5
      · dsimp only at hM2 hpar hkind
        cases hM'.symm.trans hM2
        rcases hkind with ⟨k4, w1, w2⟩ | ⟨k0, w1, w2⟩ | ⟨k1, w1, w2, w3, w4⟩ | ⟨k2, w1, w2, w3, w4⟩
        · rcases hx2 with ⟨hi, -⟩ | ⟨-, hx2⟩ | ⟨-, hx2⟩
          · rw [hi] at hdg hlk
            have el : ix.2 = 3 := Nat.eq_of_beq_eq_true hlk
            rw [el] at hdg
            rcases hgc with ⟨-, hlen, hst⟩ | ⟨-, z, -⟩
            · exact va_runSN (n := q.2.1) fix hMet ⟨va_cnB q.2.1 hts (rk_good' hMm) rfl rfl rfl (hK.2.2.2.1 _ w1 rfl) hI ⟨hmh', hvh', hpar⟩ hR, hts _ (rk_in w2 rfl), trivial⟩ ⟨rk_Pc_blind _ _ _, hPre⟩ rfl (by rw [List.length_map]; exact hlen) hlsz (by show st.map (rk_v E) = _; rw [hst, List.map_append, List.map_reverse]) (lv_room hsum) hdg hf
            · exact absurd k4 z
          · omega
          · omega
        · rcases hx2 with ⟨hi, -⟩ | ⟨-, hx2⟩ | ⟨-, hx2⟩
          · rw [hi] at hdg hlk
            have el : ix.2 = 3 := Nat.eq_of_beq_eq_true hlk
            rw [el] at hdg
            rcases hgc with ⟨-, hlen, hst⟩ | ⟨z, -, -⟩
            · exact va_runS (n := q.2.1) fix hMet ⟨callB_of q.2.1 hts (rk_good' hMm) rfl rfl rfl hI (hts _ (rk_in w1 rfl)) ⟨hmh', hvh', hpar⟩ hR, hts _ (rk_in w2 rfl)⟩ ⟨rk_Pc_blind _ _ _, hPre⟩ rfl (by rw [List.length_map]; exact hlen) hlsz (by show st.map (rk_v E) = _; rw [hst, List.map_append, List.map_reverse]) (lv_room hsum) hdg hf
            · exact absurd k0 z
          · omega
          · omega
        · rcases hx2 with ⟨-, hx2⟩ | ⟨hi, -⟩ | ⟨-, hx2⟩
          · omega
          · rw [hi] at hdg hlk
            have el : ix.2 = 3 := Nat.eq_of_beq_eq_true hlk
            rw [el] at hdg
            rcases hgc with ⟨z, -, -⟩ | ⟨-, -, b, As, qb, hav, hlen, hst, hqb, hqk⟩
            · omega
            · have hqk : qb.1 = M'.2.2.2.2.1 := hqk.elim (fun z => by omega) id
              obtain ⟨rr, hrr⟩ := rk_vw_some w4
              have hrr2 : vwCl[qb.1]? = some rr := by rw [hqk]; exact hrr
              obtain ⟨-, cv, q1, q2, q3, -⟩ := rk_at_obj (hZ.2.1.2.2.2 b qb hqb) hrr2
              have hcls := (hK.1.1 qb.1 rr hrr2).2.1
              have ecl : M'.1.cls = rr.1 := by rw [← hcn']; exact rk_cn_cl _ _ hrr
              have hav2 : ar.1.map (rk_v E) = Value.ref (rk_ad E b) :: As.map (rk_v E) := by rw [hav]; rfl
              rw [hav2]
              rw [hav2] at hPre
              exact va_runV (n := q.2.1) (C := M'.1.cls) fix hMet ⟨callB_of q.2.1 hts (rk_good' hMm) rfl rfl rfl hI (hts _ (rk_in w1 rfl)) ⟨hmh', hvh', hpar⟩ hR, hts _ (rk_in w2 rfl), hts _ (rk_in w3 rfl)⟩ ⟨rk_Pc_blind _ _ _, ⟨cv, q1, by rw [q3]; rfl, by rw [q2, ecl]; exact hcls⟩, hPre⟩ rfl (by rw [List.length_map]; exact hlen) hlsz (by show st.map (rk_v E) = _; rw [hst, List.map_append, List.map_reverse]; rfl) (lv_room hsum) hdg hf
          · omega
        · rcases hx2 with ⟨-, hx2⟩ | ⟨-, hx2⟩ | ⟨hi, -⟩
          · omega
          · omega
          · rw [hi] at hdg hlk
            have el : ix.2 = 3 := Nat.eq_of_beq_eq_true hlk
            rw [el] at hdg
            rcases hgc with ⟨z, -, -⟩ | ⟨-, -, b, As, qb, hav, hlen, hst, hqb, hqk⟩
            · omega
            · have hav2 : ar.1.map (rk_v E) = Value.ref (rk_ad E b) :: As.map (rk_v E) := by rw [hav]; rfl
              rw [hav2]
              rw [hav2] at hPre
              exact va_runI (n := q.2.1) fix hMet ⟨callB_of q.2.1 hts (rk_good' hMm) (by rw [← w4]; rfl) rfl rfl hI (hts _ (rk_in w1 rfl)) ⟨hmh', hvh', hpar⟩ hR, w3, hts _ (rk_in w2 rfl)⟩ ⟨rk_Pc_blind _ _ _, hPre⟩ rfl (by rw [List.length_map]; exact hlen) hlsz (by show st.map (rk_v E) = _; rw [hst, List.map_append, List.map_reverse]; rfl) (lv_room hsum) hdg hf
    · have el := rk_ret_len hv hlk
      rw [el] at hdg
      exact kret pc ix.1 lv st ls H locs cells slots hdg hv hZ
