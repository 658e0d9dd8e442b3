/-! each instruction, over the machine -/
section RKW
variable {p : Program} {l : Launch} {e : Env} {R : Room} {s : State} {m : MethodId} {args : Array Value} {below : List Frame} {meth : Method} {c : Code} {Q : State → Prop}
variable {E : rk_E} {M : rk_M} {h0 : rk_S} {pc : Nat} {lv : rk_L} {h : rk_S} {ls : Array Slot} {H : Heap} {locs : List Loc} {cells slots : Nat} {r : List Value}
/-- the goal behind an instruction -/
def rk_N (p : Program) (l : Launch) (e : Env) (R : Room) (s : State) (m : MethodId) (args : Array Value) (below : List Frame) (meth : Method) (c : Code) (Q : State → Prop) (E : rk_E) (M : rk_M) (h0 : rk_S) (t : rk_T) : Prop :=
  ∀ (ls' : Array Slot) (H' : Heap) (locs' : List Loc) (cells' slots' : Nat), rk_Z E M h0 t.2.1 t.2.2.2 ls' H' locs' cells' slots' → W p l e R s m args below meth c H' locs' cells' slots' Q (F0 m t.1 ls' (t.2.2.1.map (rk_v E)))
theorem rk_w_get (C : rk_C E M p s m args meth c) {x a : Nat} {f : Nat × Nat × Nat × Bool × Bool} {q : Nat × List Value} {v : Value} (hf : rk_find (rk_fl M.2.2.2.2.1) x = some f) (hq : h[a]? = some q) (hqf : q.1 = f.1) (hv : q.2[f.2.1]? = some v) (hd : decode M.2.1 pc = .ok (.getfield x, 3))
    (hZ : rk_Z E M h0 lv h ls H locs cells slots) (kk : rk_N p l e R s m args below meth c Q E M h0 (pc + 3, lv, v :: r, h)) : W p l e R s m args below meth c H locs cells slots Q (F0 m pc ls (.ref (rk_ad E a) :: r.map (rk_v E))) := by
  obtain ⟨hx, hb, hml, hown, hts, hK, -, hc⟩ := C
  have hck := rk_fl_ok _ hc _ (rk_find_mem hf)
  unfold rk_flc at hck
  split at hck
  · rename_i r0 hr0
    dsimp only at hr0 hck
    simp only [Bool.and_eq_true, Nat.blt_eq] at hck
    obtain ⟨h1, h2, h3, h4⟩ := hck
    have hr1 : vwCl[q.1]? = some r0 := by rw [hqf]; exact hr0
    obtain ⟨hlen, hob⟩ := rk_at_obj (hZ.2.1.2.2.2 a q hq) hr1
    have hP1 : va_P E.1 vwCl [(rk_ad E a, .inr (q.1, q.2.map (rk_v E)))] H := by
      intro k y hy
      have hz : k < 1 := (List.getElem?_eq_some_iff.mp hy).1
      rw [show k = 0 by omega] at hy
      cases hy
      exact ⟨r0, hr1, hob⟩
    have hcc := rk_cc_ok _ _ hr0
    have hvv : (q.2.map (rk_v E))[f.2.1]? = some (rk_v E v) := by rw [List.getElem?_map, hv]; rfl
    cases hn : f.2.2.2.2 with
    | true =>
      rw [hn] at h4
      have h4 := of_decide_eq_true h4
      exact va_getN (D := E.1) (ci := q.1) (v := rk_v E v) (C := r0.1) (T := r0.2.1) (N := r0.2.2) hx hb hts (fun w hw => rk_in (hcc.1 w hw) (rk_ug w hw)) hown hK.1 hP1 0 rfl hr1 f.2.1 h1 (va_Nw.use rfl (hK.2.2.2.1 _ h4 rfl)) (fun _ h9 => h9) hvv hd (kk _ _ _ _ _ hZ)
    | false =>
      rw [hn] at h4
      have h4 := of_decide_eq_true h4
      exact va_get (D := E.1) (ci := q.1) (v := rk_v E v) (C := r0.1) (T := r0.2.1) (N := r0.2.2) hx hb hts (fun w hw => rk_in (hcc.1 w hw) (rk_ug w hw)) hown hK.1 hP1 0 rfl hr1 f.2.1 h1 (hts _ (rk_in h4 rfl)) (fun _ h9 => h9) hvv hd (kk _ _ _ _ _ hZ)
  · cases hck
theorem rk_Z_put (hZ : rk_Z E M h0 lv h ls H locs cells slots) {a k : Nat} {q q' : Nat × List Value} {H' : Heap} (hq : h[a]? = some q) (ha : 0 < a) (hlen : q'.2.length = q.2.length) (hat : rk_at E (rk_ad E a) q' H') (e2 : H'.size = H.size) (e3 : ∀ x : Nat, x ≠ rk_ad E a → H'[x]? = H[x]?) : rk_Z E M h0 lv (h.set a q') ls H' (locs ++ [⟨rk_ad E a, k⟩]) cells slots := by
  obtain ⟨z1, z2, z3, z4, z5⟩ := hZ
  refine ⟨z1, z2.set hq hat e2 e3, fun y hy => ?_, by rw [List.length_set]; exact z4, by rw [rk_sz_set hq hlen]; exact z5⟩
  rcases List.mem_append.mp hy with hy | hy
  · exact z3 y hy
  · rw [List.mem_singleton.mp hy]
    exact rk_base ha
theorem rk_w_put (C : rk_C E M p s m args meth c) {x a : Nat} {f : Nat × Nat × Nat × Bool × Bool} {q : Nat × List Value} {v : Value} (hf : rk_find (rk_fl M.2.2.2.2.1) x = some f) (hq : h[a]? = some q) (hqf : q.1 = f.1) (ha : 0 < a) (hl : f.2.1 < q.2.length) (hfit : rk_fit f.2.2.1 v = true) (hfin : f.2.2.2.1 = false ∨ (f.2.2.2.2 = false ∧ M.2.2.2.2.1 = f.1 ∧ M.1.name = "<init>")) (hd : decode M.2.1 pc = .ok (.putfield x, 3))
    (hZ : rk_Z E M h0 lv h ls H locs cells slots) (kk : rk_N p l e R s m args below meth c Q E M h0 (pc + 3, lv, r, h.set a (q.1, q.2.set f.2.1 v))) : W p l e R s m args below meth c H locs cells slots Q (F0 m pc ls (rk_v E v :: .ref (rk_ad E a) :: r.map (rk_v E))) := by
  obtain ⟨hx, hb, hml, hown, hts, hK, hini, hc⟩ := C
  have hck := rk_fl_ok _ hc _ (rk_find_mem hf)
  unfold rk_flc at hck
  split at hck
  · rename_i r0 hr0
    dsimp only at hr0 hck
    simp only [Bool.and_eq_true, Nat.blt_eq, decide_eq_true_eq] at hck
    obtain ⟨h1, h2, h3, h4⟩ := hck
    have hr1 : vwCl[q.1]? = some r0 := by rw [hqf]; exact hr0
    obtain ⟨hlen, hob⟩ := rk_at_obj (hZ.2.1.2.2.2 a q hq) hr1
    obtain ⟨hin0, ⟨ty0, hty, -⟩, hnm, -, -, -⟩ := rk_cc_ok _ _ hr0
    have hin : ∀ w ∈ u_ws r0.1 r0.2.1 r0.2.2, w ∈ rk_W := fun w hw => rk_in (hin0 w hw) (rk_ug w hw)
    obtain ⟨ty, hpd, hn, hft⟩ := rk_fitok (E := E) h3 hfit
    obtain ⟨C0, T, N⟩ := r0
    dsimp only at h1 h2 h3 h4 hr0 hr1 hlen hob hin hty hnm hpd
    have hap := va_apart (own := C0) hts hin ty0 hty hnm hK.1 hr1
    obtain ⟨cell, q1, q2, q3, q4⟩ := hob
    obtain ⟨hS, hfc, kC, hkC, hkind⟩ := hK.1.1 q.1 _ hr1
    obtain ⟨cf, kf, fi, fd, hi, hsl⟩ := hS f.2.1 h1
    have hlay := hts _ (hin _ (u_in_lay h1))
    have hst := (u_facts hfc hkC (u_lays hts hin h1) hi).1
    have hl2 : f.2.1 < (q.2.map (rk_v E)).length := by rw [List.length_map]; exact hl
    have fin : ∀ (H' : Heap), H'[rk_ad E a]? = some (cell.setSlot fd.slot (rk_v E v)) → H'.size = H.size → (∀ y : Nat, y ≠ rk_ad E a → H'[y]? = H[y]?) → W p l e R s m args below meth c H' (locs ++ [⟨rk_ad E a, fd.slot⟩]) cells slots Q (F0 m (pc + 3) ls (r.map (rk_v E))) := by
      intro H' e1 e2 e3
      refine kk _ _ _ _ _ (rk_Z_put hZ hq ha (by simp) ?_ e2 e3)
      rw [hsl] at e1
      refine Or.inl ⟨(List.getElem?_eq_some_iff.mp hr1).1, _, hr1, by simp only [List.length_set]; exact hlen, ?_⟩
      have := t_OB.to (V := updV (vp_V (q.2.map (rk_v E))) f.2.1 (rk_v E v)) (V' := vp_V ((q.2.set f.2.1 v).map (rk_v E))) ⟨_, e1, q2, q3, t_set q4 hap h1 (rk_v E v)⟩ (fun j _ => by rw [vp_updV_set hl2, List.map_set])
      exact this
    unfold u_lay at hlay
    cases hfn : f.2.2.2.1 with
    | false =>
      rw [hfn] at h2
      rw [if_neg (by rw [h2]; decide)] at hlay
      have h6 := u_store hfc hkC hkind hlay hi hpd hn hft
      cases hnn : f.2.2.2.2 with
      | true =>
        rw [hnn] at h4
        have h4 := of_decide_eq_true h4
        exact va_WputK hx hb (f := fd) hown (va_Nw.use rfl (hK.2.2.2.1 _ h4 rfl)) hi hst (by rw [q2]; exact h6) q1 q3 (by rw [hsl]; exact k2_hasslot (q4 _ h1)) rfl rfl hd fin
      | false =>
        rw [hnn] at h4
        have h4 := of_decide_eq_true h4
        exact W.putK hx hb (f := fd) ⟨hown, hts _ (rk_in h4 rfl), ⟨_, _, _, hi⟩, hst⟩ (by rw [q2]; exact h6) q1 q3 (by rw [hsl]; exact k2_hasslot (q4 _ h1)) rfl rfl hd fin
    | true =>
      rw [hfn] at h2
      rw [if_pos h2] at hlay
      rcases hfin with hfin | ⟨g1, g2, g3⟩
      · rw [hfn] at hfin; cases hfin
      · rw [g1] at h4
        have h4 := of_decide_eq_true h4
        have hcf : m.cls = cf := by
          obtain ⟨_, _, c', _, _, _, -, -, hf', -, -, -, hown2, -⟩ := Cond.laysFinal_spec hlay
          have e1 : c' = cf := by have := hi.symm.trans hf'; simp at this; exact this.1.symm
          have e9 : (T f.2.1).1 = C0 := by
            have key : ∀ (ci k : Nat) (rr : vw_C), vwCl[ci]? = some rr → k < rr.2.2 → (rr.2.1 k).1 = rr.1 := by
              intro ci k rr hrr hk
              have hh : ∀ ci, ci < 9 → ∀ rr ∈ vwCl[ci]?, ∀ k, k < rr.2.2 → (rr.2.1 k).1 = rr.1 := by decide +kernel
              exact hh ci (List.getElem?_eq_some_iff.mp hrr).1 rr hrr k hk
            exact key _ _ _ hr0 h1
          have e8 : rk_cn M.2.2.2.2.1 = C0 := by
            have key : ∀ (ci : Nat) (rr : vw_C), vwCl[ci]? = some rr → rk_cn ci = rr.1 := by
              intro ci rr hrr
              have hh : ∀ ci, ci < 9 → ∀ rr ∈ vwCl[ci]?, rk_cn ci = rr.1 := by decide +kernel
              exact hh ci (List.getElem?_eq_some_iff.mp hrr).1 rr hrr
            rw [g2]
            exact key _ _ hr0
          rw [e9] at hown2
          rw [e8] at hown
          rw [← e1]; exact Option.some.inj (hown.symm.trans hown2)
        have h6 := u_fits hfc hkC hkind (Or.inr hlay) hi hpd hn hft
        exact W.putFinK hx hb hown (hts _ (rk_in h4 rfl)) hi hst hcf (hini g3) (by rw [q2]; exact h6) q1 q3 (by rw [hsl]; exact k2_hasslot (q4 _ h1)) rfl rfl hd fin
  · cases hck
theorem rk_w_iald (C : rk_C E M p s m args meth c) {j : Int32} {a : Nat} {q : Nat × List Value} {v : Value} (hq : h[a]? = some q) (hk : q.1 = 9 ∨ q.1 = 14) (hj : ¬ j < 0) (hv : q.2[j.toNatClampNeg]? = some v) (hd : decode M.2.1 pc = .ok (.iaload, 1))
    (hZ : rk_Z E M h0 lv h ls H locs cells slots) (kk : rk_N p l e R s m args below meth c Q E M h0 (pc + 1, lv, v :: r, h)) : W p l e R s m args below meth c H locs cells slots Q (F0 m pc ls (.int j :: .ref (rk_ad E a) :: r.map (rk_v E))) := by
  obtain ⟨hx, hb, hml, hown, hts, hK, -, hc⟩ := C
  have hat := hZ.2.1.2.2.2 a q hq
  have hlt : j.toNatClampNeg < q.2.length := (List.getElem?_eq_some_iff.mp hv).1
  have hvv : (q.2.map (rk_v E)).toArray[j.toNatClampNeg]? = some (rk_v E v) := by rw [List.getElem?_toArray, List.getElem?_map, hv]; rfl
  rcases hk with hk | hk
  · have hcell := rk_at_arr hat (by omega) (by omega)
    have ha := rk_arr (hK.2.1 9 (by omega) (by omega)) (q.2.map (rk_v E)).toArray
    rw [hk] at hcell
    exact W.iald hx hb hcell ha (fun z => by cases z) (by show ¬ (j < 0 ∨ (q.2.map (rk_v E)).toArray.size ≤ _); simp; exact ⟨Int32.not_lt.mp hj, hlt⟩) hvv rfl rfl hd (kk _ _ _ _ _ hZ)
  · obtain ⟨g1, g2⟩ := rk_at_scr hat hk
    exact W.iald hx hb g1 hK.2.2.1.1 hK.2.2.1.2 (by rw [g2]; simp; exact ⟨Int32.not_lt.mp hj, hlt⟩) (by rw [g2]; exact hvv) rfl rfl hd (kk _ _ _ _ _ hZ)
theorem rk_w_zald (C : rk_C E M p s m args meth c) {j : Int32} {a : Nat} {q : Nat × List Value} {v : Value} (hq : h[a]? = some q) (hk : q.1 = 10) (hj : ¬ j < 0) (hv : q.2[j.toNatClampNeg]? = some v) (hd : decode M.2.1 pc = .ok (.baload, 1))
    (hZ : rk_Z E M h0 lv h ls H locs cells slots) (kk : rk_N p l e R s m args below meth c Q E M h0 (pc + 1, lv, v :: r, h)) : W p l e R s m args below meth c H locs cells slots Q (F0 m pc ls (.int j :: .ref (rk_ad E a) :: r.map (rk_v E))) := by
  obtain ⟨hx, hb, hml, hown, hts, hK, -, hc⟩ := C
  have hat := hZ.2.1.2.2.2 a q hq
  have hlt : j.toNatClampNeg < q.2.length := (List.getElem?_eq_some_iff.mp hv).1
  have hvv : (q.2.map (rk_v E)).toArray[j.toNatClampNeg]? = some (rk_v E v) := by rw [List.getElem?_toArray, List.getElem?_map, hv]; rfl
  have hcell := rk_at_arr hat (by omega) (by omega)
  have ha := rk_arr (hK.2.1 10 (by omega) (by omega)) (q.2.map (rk_v E)).toArray
  rw [hk] at hcell
  exact W.zald hx hb hcell ha (fun z => by cases z) (by show ¬ (j < 0 ∨ (q.2.map (rk_v E)).toArray.size ≤ _); simp; exact ⟨Int32.not_lt.mp hj, hlt⟩) hvv rfl rfl hd (kk _ _ _ _ _ hZ)
theorem rk_w_aald (C : rk_C E M p s m args meth c) {j : Int32} {a : Nat} {q : Nat × List Value} {v : Value} (hq : h[a]? = some q) (hk : q.1 = 11 ∨ q.1 = 12 ∨ q.1 = 13) (hj : ¬ j < 0) (hv : q.2[j.toNatClampNeg]? = some v) (hd : decode M.2.1 pc = .ok (.aaload, 1))
    (hZ : rk_Z E M h0 lv h ls H locs cells slots) (kk : rk_N p l e R s m args below meth c Q E M h0 (pc + 1, lv, v :: r, h)) : W p l e R s m args below meth c H locs cells slots Q (F0 m pc ls (.int j :: .ref (rk_ad E a) :: r.map (rk_v E))) := by
  obtain ⟨hx, hb, hml, hown, hts, hK, -, hc⟩ := C
  have hat := hZ.2.1.2.2.2 a q hq
  have hlt : j.toNatClampNeg < q.2.length := (List.getElem?_eq_some_iff.mp hv).1
  have hvv : (q.2.map (rk_v E)).toArray[j.toNatClampNeg]? = some (rk_v E v) := by rw [List.getElem?_toArray, List.getElem?_map, hv]; rfl
  have hcell := rk_at_arr hat (by omega) (by omega)
  have ha := rk_arr (hK.2.1 q.1 (by omega) (by omega)) (q.2.map (rk_v E)).toArray
  exact W.aald hx hb hcell ha (by rcases hk with hk | hk | hk <;> rw [hk] <;> rfl) (fun z => by cases z) (by show ¬ (j < 0 ∨ (q.2.map (rk_v E)).toArray.size ≤ _); simp; exact ⟨Int32.not_lt.mp hj, hlt⟩) hvv rfl rfl hd (kk _ _ _ _ _ hZ)
theorem rk_at_arr' {a k : Nat} {vs : List Value} {j : Nat} {v : Value} {H' : Heap} (hk : 9 ≤ k ∧ k < 14) (e1 : H'[a]? = some (({ cls := E.2.1 k, slots := (vs.map (rk_v E)).toArray, vm := .none } : Cell).setSlot j (rk_v E v))) : rk_at E a (k, vs.set j v) H' := by
  refine Or.inr (Or.inr ⟨hk, ?_⟩)
  rw [rk_setSlot] at e1
  rw [e1, List.map_set]
theorem rk_w_iast (C : rk_C E M p s m args meth c) {x j : Int32} {a : Nat} {q : Nat × List Value} (hq : h[a]? = some q) (hk : q.1 = 9) (ha : 0 < a) (hj : ¬ j < 0) (hlt : j.toNatClampNeg < q.2.length) (hd : decode M.2.1 pc = .ok (.iastore, 1))
    (hZ : rk_Z E M h0 lv h ls H locs cells slots) (kk : rk_N p l e R s m args below meth c Q E M h0 (pc + 1, lv, r, h.set a (q.1, q.2.set j.toNatClampNeg (.int x)))) : W p l e R s m args below meth c H locs cells slots Q (F0 m pc ls (.int x :: .int j :: .ref (rk_ad E a) :: r.map (rk_v E))) := by
  obtain ⟨hx, hb, hml, hown, hts, hK, -, hc⟩ := C
  have hcell := rk_at_arr (hZ.2.1.2.2.2 a q hq) (by omega) (by omega)
  have har := rk_arr (hK.2.1 9 (by omega) (by omega)) (q.2.map (rk_v E)).toArray
  obtain ⟨kq, vs⟩ := q
  dsimp only at hk hlt hcell har
  subst hk
  exact W.iast hx hb hcell har (fun z => by cases z) (by show ¬ (j < 0 ∨ (vs.map (rk_v E)).toArray.size ≤ _); simp; exact ⟨Int32.not_lt.mp hj, hlt⟩) rfl rfl hd (fun H' e1 e2 e3 => kk _ _ _ _ _ (rk_Z_put hZ hq ha (by simp) (rk_at_arr' (v := .int x) (by omega) e1) e2 e3))
theorem rk_w_zast (C : rk_C E M p s m args meth c) {x j : Int32} {a : Nat} {q : Nat × List Value} (hq : h[a]? = some q) (hk : q.1 = 10) (ha : 0 < a) (hj : ¬ j < 0) (hlt : j.toNatClampNeg < q.2.length) (hd : decode M.2.1 pc = .ok (.bastore, 1))
    (hZ : rk_Z E M h0 lv h ls H locs cells slots) (kk : rk_N p l e R s m args below meth c Q E M h0 (pc + 1, lv, r, h.set a (q.1, q.2.set j.toNatClampNeg (narrow .boolean (.int x))))) : W p l e R s m args below meth c H locs cells slots Q (F0 m pc ls (.int x :: .int j :: .ref (rk_ad E a) :: r.map (rk_v E))) := by
  obtain ⟨hx, hb, hml, hown, hts, hK, -, hc⟩ := C
  have hcell := rk_at_arr (hZ.2.1.2.2.2 a q hq) (by omega) (by omega)
  have har := rk_arr (hK.2.1 10 (by omega) (by omega)) (q.2.map (rk_v E)).toArray
  obtain ⟨kq, vs⟩ := q
  dsimp only at hk hlt hcell har
  subst hk
  exact W.zast hx hb hcell har (fun z => by cases z) (by show ¬ (j < 0 ∨ (vs.map (rk_v E)).toArray.size ≤ _); simp; exact ⟨Int32.not_lt.mp hj, hlt⟩) rfl rfl hd (fun H' e1 e2 e3 => kk _ _ _ _ _ (rk_Z_put hZ hq ha (by simp) (rk_at_arr' (v := narrow .boolean (.int x)) (by omega) e1) e2 e3))
theorem rk_w_aast (C : rk_C E M p s m args meth c) {j : Int32} {v a : Nat} {q w : Nat × List Value} (hq : h[a]? = some q) (hw : h[v]? = some w) (hk : (q.1 = 11 ∧ w.1 = 0) ∨ (q.1 = 12 ∧ w.1 = 1)) (ha : 0 < a) (hj : ¬ j < 0) (hlt : j.toNatClampNeg < q.2.length) (hd : decode M.2.1 pc = .ok (.aastore, 1))
    (hZ : rk_Z E M h0 lv h ls H locs cells slots) (kk : rk_N p l e R s m args below meth c Q E M h0 (pc + 1, lv, r, h.set a (q.1, q.2.set j.toNatClampNeg (.ref v)))) : W p l e R s m args below meth c H locs cells slots Q (F0 m pc ls (.ref (rk_ad E v) :: .int j :: .ref (rk_ad E a) :: r.map (rk_v E))) := by
  obtain ⟨hx, hb, hml, hown, hts, hK, -, hc⟩ := C
  have hcell := rk_at_arr (hZ.2.1.2.2.2 a q hq) (by omega) (by omega)
  obtain ⟨kA, comp, k1, k2, -, k4⟩ := hK.2.1 q.1 (by omega) (by omega)
  have key : ∃ rr : vw_C, vwCl[w.1]? = some rr ∧ rk_ty q.1 = .object rr.1 := by
    rcases hk with ⟨g1, g2⟩ | ⟨g1, g2⟩ <;> rw [g1, g2]
    · exact ⟨_, rfl, rfl⟩
    · exact ⟨_, rfl, rfl⟩
  obtain ⟨rr, hr1, hty⟩ := key
  obtain ⟨-, cv, q1, q2, q3, -⟩ := rk_at_obj (hZ.2.1.2.2.2 v w hw) hr1
  have hcls := (hK.1.1 w.1 rr hr1).2
  have hcomp : comp = E.1.1 w.1 := Option.some.inj ((k4 _ hty).symm.trans hcls.1)
  subst hcomp
  obtain ⟨kC, hkC, -⟩ := hcls.2
  refine W.aast hx hb hcell (fun z h => by cases h) (fun h => by cases h) k1 k2 (by rw [hty]; rfl) hkC ⟨hj, by show _ < (q.2.map (rk_v E)).toArray.size; simp; exact hlt⟩ q1 (fun z h => by rw [q3] at h; cases h) (by rw [q2]; exact hkC) (by rw [q2]; exact va_assign hcls) rfl rfl hd (fun H' e1 e2 e3 => kk _ _ _ _ _ (rk_Z_put hZ hq ha (by simp) ?_ e2 e3))
  exact rk_at_arr' (v := .ref v) (by omega) e1
theorem rk_w_alen (C : rk_C E M p s m args meth c) {a : Nat} {q : Nat × List Value} (hq : h[a]? = some q) (hk : q.1 = 14) (hd : decode M.2.1 pc = .ok (.arraylength, 1))
    (hZ : rk_Z E M h0 lv h ls H locs cells slots) (kk : rk_N p l e R s m args below meth c Q E M h0 (pc + 1, lv, .int (Int32.ofNat q.2.length) :: r, h)) : W p l e R s m args below meth c H locs cells slots Q (F0 m pc ls (.ref (rk_ad E a) :: r.map (rk_v E))) := by
  obtain ⟨hx, hb, hml, hown, hts, hK, -, hc⟩ := C
  obtain ⟨g1, g2⟩ := rk_at_scr (hZ.2.1.2.2.2 a q hq) hk
  exact W.alen (n := Int32.ofNat q.2.length) hx hb g1 hK.2.2.1.1 (by rw [g2]; simp) rfl rfl hd (kk _ _ _ _ _ hZ)
theorem rk_Z_app (hZ : rk_Z E M h0 lv h ls H locs cells slots) {g : rk_S} {H' : Heap} (hz : H'.size = H.size + g.length) (ho : ∀ x : Nat, x < H.size → H'[x]? = H[x]?) (hat : ∀ (j : Nat) (q : Nat × List Value), g[j]? = some q → rk_at E (H.size + j) q H') : rk_Z E M h0 lv (h ++ g) ls H' locs (cells + g.length) (slots + rk_sz g) := by
  obtain ⟨z1, z2, z3, z4, z5⟩ := hZ
  exact ⟨z1, z2.app hz ho hat, z3, by rw [List.length_append]; omega, by rw [rk_sz_app]; omega⟩
theorem rk_w_new (C : rk_C E M p s m args meth c) {x ci : Nat} (hf : rk_find (rk_kl M.2.2.2.2.1) x = some ci) (hci : ci < 9) (hd : decode M.2.1 pc = .ok (.new x, 3)) (hr1 : (h ++ [(ci, rk_df ci)]).length ≤ h0.length + R.cells) (hr2 : rk_sz (h ++ [(ci, rk_df ci)]) ≤ rk_sz h0 + R.slots)
    (hZ : rk_Z E M h0 lv h ls H locs cells slots) (kk : rk_N p l e R s m args below meth c Q E M h0 (pc + 3, lv, .ref h.length :: r, h ++ [(ci, rk_df ci)])) : W p l e R s m args below meth c H locs cells slots Q (F0 m pc ls (r.map (rk_v E))) := by
  obtain ⟨hx, hb, hml, hown, hts, hK, -, hc⟩ := C
  have hck := rk_kl_ok _ hc _ (rk_find_mem hf)
  unfold rk_klc at hck
  dsimp only at hck
  rw [show Nat.beq ci 13 = false from by cases hq : Nat.beq ci 13 with | true => exact absurd (Nat.eq_of_beq_eq_true hq) (by omega) | false => rfl] at hck
  dsimp only [cond] at hck
  split at hck
  · rename_i r0 hr0
    have hck := of_decide_eq_true hck
    obtain ⟨hin0, ⟨ty, hty, hdf⟩, hnm, hi1, hi2, hdl⟩ := rk_cc_ok _ _ hr0
    have hin : ∀ w ∈ u_ws r0.1 r0.2.1 r0.2.2, w ∈ rk_W := fun w hw => rk_in (hin0 w hw) (rk_ug w hw)
    have hKn := hK.1.1 ci _ hr0
    have hz4 := hZ.2.2.2.1
    have hz5 := hZ.2.2.2.2
    have hsz1 : rk_sz [(ci, rk_df ci)] = r0.2.2 := by simp [rk_sz, hdl]
    rw [List.length_append] at hr1
    rw [rk_sz_app, hsz1] at hr2
    simp only [List.length_cons, List.length_nil] at hr1
    refine W.newcK hx hb hown (hts _ (rk_in hck rfl)) (hts _ (rk_in hi1 rfl)) (hts _ (rk_in hi2 rfl)) rfl hd (by omega) (by omega) hKn.2.1 rfl fun H1 kC hkC e1 z1 o1 => ?_
    have hZ1 := rk_Z_app (g := [(ci, rk_df ci)]) (H' := H1) hZ (by simpa using z1) o1 (fun j q hj => by
      have hz : j < 1 := (List.getElem?_eq_some_iff.mp hj).1
      rw [show j = 0 by omega] at hj ⊢
      cases hj
      refine Or.inl ⟨hci, r0, hr0, hdl, ?_⟩
      rw [rk_df_v]
      exact (u_born ty hts hin hKn hkC e1 hty).to hdf)
    rw [hsz1] at hZ1
    have := kk _ _ _ _ _ hZ1
    dsimp only [List.map, rk_v] at this
    rw [hZ.2.1.next] at this
    exact this
  · cases hck
theorem rk_rep_v (E : rk_E) (n : Nat) (v : Value) (hv : rk_v E v = v) : ((List.replicate n v).map (rk_v E)).toArray = Array.replicate n v := by
  rw [List.map_replicate, hv]; simp
theorem rk_w_nwa (C : rk_C E M p s m args meth c) {n : Int32} {k : Nat} {at' : ArrayType} (hk : (k = 9 ∧ at' = .int) ∨ (k = 10 ∧ at' = .boolean)) (hn : ¬ n < 0) (hN : n.toNatClampNeg ≤ 100000) (hd : decode M.2.1 pc = .ok (.newarray at', 2)) (hr1 : (h ++ [(k, List.replicate n.toNatClampNeg (Value.int 0))]).length ≤ h0.length + R.cells) (hr2 : rk_sz (h ++ [(k, List.replicate n.toNatClampNeg (Value.int 0))]) ≤ rk_sz h0 + R.slots)
    (hZ : rk_Z E M h0 lv h ls H locs cells slots) (kk : rk_N p l e R s m args below meth c Q E M h0 (pc + 2, lv, .ref h.length :: r, h ++ [(k, List.replicate n.toNatClampNeg (.int 0))])) : W p l e R s m args below meth c H locs cells slots Q (F0 m pc ls (.int n :: r.map (rk_v E))) := by
  obtain ⟨hx, hb, hml, hown, hts, hK, -, hc⟩ := C
  have hz4 := hZ.2.2.2.1
  have hz5 := hZ.2.2.2.2
  have hsz1 : rk_sz [(k, List.replicate n.toNatClampNeg (Value.int 0))] = n.toNatClampNeg := by simp [rk_sz]
  rw [List.length_append] at hr1
  rw [rk_sz_app, hsz1] at hr2
  simp only [List.length_cons, List.length_nil] at hr1
  have hdv : defaultValue (newarray.typeOf at') = .int 0 := by rcases hk with ⟨-, rfl⟩ | ⟨-, rfl⟩ <;> rfl
  have hty : newarray.typeOf at' = rk_ty k := by rcases hk with ⟨rfl, rfl⟩ | ⟨rfl, rfl⟩ <;> rfl
  have hcb : componentBytes (newarray.typeOf at') ≤ 8 := by rcases hk with ⟨-, rfl⟩ | ⟨-, rfl⟩ <;> decide
  have hw : Cond.arrayClass (newarray.typeOf at') ∈ lw_tbl := by rcases hk with ⟨-, rfl⟩ | ⟨-, rfl⟩; exact rk_w0.2.1; exact rk_w0.2.2.1
  refine W.newa hx hb (hts _ (rk_in hw rfl)) rfl hd rfl hn (Nat.le_trans (Nat.mul_le_mul hN hcb) (by decide)) (by omega) (by omega) fun cA kA comp f1 f2 f3 => ?_
  obtain ⟨-, -, -, -, g3, -⟩ := hK.2.1 k (by omega) (by omega)
  rw [hty] at f1
  cases g3.symm.trans f1
  have hZ1 := rk_Z_app (g := [(k, List.replicate n.toNatClampNeg (Value.int 0))]) (H' := H.push { cls := E.2.1 k, slots := Array.replicate n.toNatClampNeg (defaultValue (newarray.typeOf at')), vm := .none }) hZ (by simp) (fun x hx => by rw [Array.getElem?_push, if_neg (Nat.ne_of_lt hx)]) (fun j q hj => by
    have hz : j < 1 := (List.getElem?_eq_some_iff.mp hj).1
    rw [show j = 0 by omega] at hj ⊢
    cases hj
    refine Or.inr (Or.inr ⟨by show 9 ≤ k ∧ k < 14; omega, ?_⟩)
    rw [hdv]
    dsimp only
    rw [rk_rep_v E _ _ rfl]
    simp)
  rw [hsz1] at hZ1
  have := kk _ _ _ _ _ hZ1
  dsimp only [List.map, rk_v] at this
  rw [hZ.2.1.next] at this
  exact this
theorem rk_w_anw (C : rk_C E M p s m args meth c) {x ci : Nat} {n : Int32} (hf : rk_find (rk_kl M.2.2.2.2.1) x = some ci) (hci : ci < 2) (hn : ¬ n < 0) (hN : n.toNatClampNeg ≤ 100000) (hd : decode M.2.1 pc = .ok (.anewarray x, 3)) (hr1 : (h ++ [(11 + ci, List.replicate n.toNatClampNeg Value.null)]).length ≤ h0.length + R.cells) (hr2 : rk_sz (h ++ [(11 + ci, List.replicate n.toNatClampNeg Value.null)]) ≤ rk_sz h0 + R.slots)
    (hZ : rk_Z E M h0 lv h ls H locs cells slots) (kk : rk_N p l e R s m args below meth c Q E M h0 (pc + 3, lv, .ref h.length :: r, h ++ [(11 + ci, List.replicate n.toNatClampNeg .null)])) : W p l e R s m args below meth c H locs cells slots Q (F0 m pc ls (.int n :: r.map (rk_v E))) := by
  obtain ⟨hx, hb, hml, hown, hts, hK, -, hc⟩ := C
  have hz4 := hZ.2.2.2.1
  have hz5 := hZ.2.2.2.2
  have hsz1 : rk_sz [(11 + ci, List.replicate n.toNatClampNeg Value.null)] = n.toNatClampNeg := by simp [rk_sz]
  rw [List.length_append] at hr1
  rw [rk_sz_app, hsz1] at hr2
  simp only [List.length_cons, List.length_nil] at hr1
  have hck := rk_kl_ok _ hc _ (rk_find_mem hf)
  have key : ∃ C0 : String, rk_ty (11 + ci) = .object C0 ∧ va_AO C0 s ∧ Cond.classLink (rk_cn M.2.2.2.2.1) x C0 ∈ lw_tbl := by
    match ci, hci, hck with
    | 0, _, hck => exact ⟨RX0, rfl, hK.2.2.2.2.1, of_decide_eq_true hck⟩
    | 1, _, hck => exact ⟨RX1, rfl, hK.2.2.2.2.2.1, of_decide_eq_true hck⟩
  obtain ⟨C0, hty, ho, hcl⟩ := key
  refine W.anew hx hb hown (hts _ (rk_in hcl rfl)) (va_AO.use ho) rfl hd rfl hn (by omega) (by omega) (by omega) fun cA kA comp f1 f2 f3 f4 => ?_
  obtain ⟨-, -, -, -, g3, -⟩ := hK.2.1 (11 + ci) (by omega) (by omega)
  rw [← hty] at f1
  cases g3.symm.trans f1
  have hZ1 := rk_Z_app (g := [(11 + ci, List.replicate n.toNatClampNeg Value.null)]) (H' := H.push { cls := E.2.1 (11 + ci), slots := Array.replicate n.toNatClampNeg .null, vm := .none }) hZ (by simp) (fun x hx => by rw [Array.getElem?_push, if_neg (Nat.ne_of_lt hx)]) (fun j q hj => by
    have hz : j < 1 := (List.getElem?_eq_some_iff.mp hj).1
    rw [show j = 0 by omega] at hj ⊢
    cases hj
    refine Or.inr (Or.inr ⟨by show 9 ≤ 11 + ci ∧ 11 + ci < 14; omega, ?_⟩)
    dsimp only
    rw [rk_rep_v E _ _ rfl]
    simp)
  rw [hsz1] at hZ1
  have := kk _ _ _ _ _ hZ1
  dsimp only [List.map, rk_v] at this
  rw [hZ.2.1.next] at this
  exact this
end RKW
