/-! the law, out of one run of the pure machine -/
def rk_scr (L : Nat) (xs : Nat → Int32) : Nat × List Value := (14, (List.range L).map (fun j => Value.int (xs j)))
theorem rk_retL {i : Instr} {st : List Value} (h : rk_ret rm_L_law i st = some (some (.int 1))) : i = .ireturn ∧ st = [.int 1] := by
  unfold rk_ret at h
  split at h
  · split at h
    · rename_i v
      split at h
      · rename_i hrt; cases hrt
      · rw [cond_eq_ite] at h
        split at h
        · cases h; exact ⟨rfl, rfl⟩
        · cases h
      · cases h
    · cases h
  · split at h
    · split at h
      · cases h
      · cases h
    · cases h
  · split at h
    · split at h
      · cases h
      · cases h
    · cases h
  · cases h
set_option maxHeartbeats 4000000 in
theorem rk_start {p : Program} {e : Env} {s : State} {m : MethodId} {below : List Frame} {meth : Method} {c : Code} (l : Launch) {b L : Nat} {xs : Nat → Int32} (C0 : lw_At p s m meth c b L xs) {n : Nat} {hF : rk_S} (hrun : rk_ex n 2000 rm_L_law 0 [(0, .ref 0)] [] [rk_scr L xs] = some (some (.int 1), hF)) (hF1 : hF.length ≤ 600000) (hF2 : rk_sz hF ≤ 7302250) : W p l e room_1 s m #[Value.ref b] below meth c s.heap [] 0 0 (lw_Z below #[Value.ref b] s) (entryFrame m ([Value.ref b] : List Value).toArray rm_L_law.2.2.1) := by
  obtain ⟨hx, hb, hr, hml, hown, hts0, hX, hbl, hlocks, hgv⟩ := C0
  obtain ⟨scr, hcb, hof, hkn, hsz, hval⟩ := hX
  have hts : ∀ w ∈ rk_W, w.before #[Value.ref b] s = true := fun w hw => hts0 w (List.mem_filter.mp hw).1
  have known : ∀ ci, ci < 9 → ∃ (cC : ClassId) (iS : Nat → Nat), ∀ r : vw_C, vwCl[ci]? = some r → u_Kn s r.1 r.2.1 r.2.2 cC iS := by
    intro ci hci
    obtain ⟨r, hr⟩ := rk_vw_some hci
    obtain ⟨h1, -, -, h2, -, -⟩ := rk_cc_ok _ _ hr
    obtain ⟨cC, iS, h⟩ := u_known (C := r.1) (T := r.2.1) (N := r.2.2) (n := r.2.2) hts0 h1 (hts0 _ h2)
    exact ⟨cC, iS, fun r' hr' => by cases hr.symm.trans hr'; exact h⟩
  have hD : ∃ D : va_G, ∀ (ci : Nat) (r : vw_C), vwCl[ci]? = some r → u_Kn s r.1 r.2.1 r.2.2 (D.1 ci) (D.2 ci) := by
    refine ⟨(fun ci => if h : ci < 9 then Classical.choose (known ci h) else 0, fun ci => if h : ci < 9 then Classical.choose (Classical.choose_spec (known ci h)) else id), fun ci r hr => ?_⟩
    have hci : ci < 9 := (List.getElem?_eq_some_iff.mp hr).1
    simp only [hci, dif_pos]
    exact Classical.choose_spec (Classical.choose_spec (known ci hci)) r hr
  obtain ⟨D, hD⟩ := hD
  have arrs : ∀ k, 9 ≤ k → k < 14 → ∃ (cA : ClassId) (kA : Class) (comp : ClassId), s.vm.classes[cA]? = some kA ∧ kA.kind = .array comp (rk_ty k) ∧ s.vm.findClass ("[" ++ (rk_ty k).toString) = some cA ∧ ∀ C, rk_ty k = .object C → s.vm.findClass C = some comp := by
    intro k h1 h2
    have hk : k = 9 ∨ k = 10 ∨ k = 11 ∨ k = 12 ∨ k = 13 := by omega
    rcases hk with rfl | rfl | rfl | rfl | rfl
    · obtain ⟨cA, kA, comp, f1, f2, f3⟩ := Cond.arrayClass_spec (hts0 _ rk_w0.2.1)
      exact ⟨cA, kA, comp, f2, f3, f1, fun C h => by cases h⟩
    · obtain ⟨cA, kA, comp, f1, f2, f3⟩ := Cond.arrayClass_spec (hts0 _ rk_w0.2.2.1)
      exact ⟨cA, kA, comp, f2, f3, f1, fun C h => by cases h⟩
    · obtain ⟨comp, cA, kA, f1, f2, f3, f4, f5⟩ := Cond.arrayOver_spec (hts0 _ rk_w0.2.2.2.1)
      exact ⟨cA, kA, comp, f3, f4, f5, fun C h => by cases h; exact f1⟩
    · obtain ⟨comp, cA, kA, f1, f2, f3, f4, f5⟩ := Cond.arrayOver_spec (hts0 _ rk_w0.2.2.2.2.1)
      exact ⟨cA, kA, comp, f3, f4, f5, fun C h => by cases h; exact f1⟩
    · obtain ⟨comp, cA, kA, f1, f2, f3, f4, f5⟩ := arrayOverA_spec (hts0 _ rk_w0.2.2.2.2.2)
      exact ⟨cA, kA, comp, f3, f4, f5, fun C h => by cases h⟩
  have hA : ∃ aC : Nat → ClassId, ∀ k, 9 ≤ k → k < 14 → ∃ (kA : Class) (comp : ClassId), s.vm.classes[aC k]? = some kA ∧ kA.kind = .array comp (rk_ty k) ∧ s.vm.findClass ("[" ++ (rk_ty k).toString) = some (aC k) ∧ ∀ C, rk_ty k = .object C → s.vm.findClass C = some comp := by
    refine ⟨fun k => if h : 9 ≤ k ∧ k < 14 then Classical.choose (arrs k h.1 h.2) else 0, fun k h1 h2 => ?_⟩
    have hh : 9 ≤ k ∧ k < 14 := ⟨h1, h2⟩
    simp only [hh, and_self, dif_pos]
    exact Classical.choose_spec (arrs k h1 h2)
  obtain ⟨aC, hA⟩ := hA
  generalize hE : ((D, aC, scr, b, s.heap.size) : rk_E) = E
  have hK : rk_K E s := by
    subst hE
    refine ⟨⟨hD, fun k q h => by simp at h⟩, hA, ⟨hof, hkn⟩, fun w hw hn => va_Nw.of (by cases w <;> first | rfl | cases hn) (hts0 w hw), va_AO.of (hts0 _ rk_w0.2.2.2.1), va_AO.of (hts0 _ rk_w0.2.2.2.2.1), hts0 _ rk_w0.2.2.2.2.2⟩
  have hP : rk_P E [rk_scr L xs] s.heap := by
    subst hE
    refine ⟨hbl, Nat.le_refl 1, rfl, fun i q hq => ?_⟩
    have hz : i < 1 := (List.getElem?_eq_some_iff.mp hq).1
    rw [show i = 0 by omega] at hq ⊢
    cases hq
    refine Or.inr (Or.inl ⟨rfl, hcb, ?_⟩)
    apply Array.ext_getElem?
    intro j
    by_cases hj : j < L
    · rw [hval j hj]
      simp [rk_scr, hj, rk_v]
    · rw [Array.getElem?_eq_none (by show scr.slots.size ≤ j; omega), Array.getElem?_eq_none (by simp [rk_scr]; omega)]
  have hl := lv_entry ([.ref b]) (n := rm_L_law.2.2.1) (Nat.le_of_ble_eq_true rfl)
  rw [lg_entry_eq]
  generalize (lg_sl ([.ref b]) ++ List.replicate (rm_L_law.2.2.1 - (lg_sl ([.ref b])).length) Slot.unset).toArray = ls at hl ⊢
  have hl : lv_has ls rm_L_law.2.2.1 (([(0, .ref 0)] : rk_L).map (rk_vp E)) := by subst hE; exact hl
  have hz : E.2.2.2.2 = s.heap.size := by subst hE; rfl
  refine rk_run_all n p l e room_1 s m _ below meth c _ E rm_L_law [rk_scr L xs] 2000 0 [(0, .ref 0)] [] [rk_scr L xs] _ ls s.heap [] 0 0 hrun ⟨hx, hb, hml, hown, hts, hK, (fun z => absurd z (by decide)), Nat.le_of_ble_eq_true rfl⟩ rd_L_law (Nat.le_of_ble_eq_true rfl) (Nat.le_of_ble_eq_true rfl) (by show hF.length ≤ 1 + 600000; omega) (by show rk_sz hF ≤ rk_sz [rk_scr L xs] + 7302250; omega) ⟨hl, hP, (fun q hq => by cases hq), rfl, rfl⟩ ?_
  intro pc' i' lv' st' ls' H' locs' cells' slots' hd hret hZ
  obtain ⟨rfl, rfl⟩ := rk_retL hret
  obtain ⟨z1, z2, z3, z4, z5⟩ := hZ
  refine va_forget (fun q hq => by rw [← hz]; exact z3 q hq) ?_
  have q1 : cells' ≤ 600000 := by
    have : 1 + cells' = hF.length := z4
    omega
  have q2 : slots' ≤ 7302250 := by
    have : rk_sz [rk_scr L xs] + slots' = rk_sz hF := z5
    omega
  refine W.widen (k := 600000) (n := 7302250) q1 q2 ?_
  exact lw_ret hx hb hr hlocks hd
