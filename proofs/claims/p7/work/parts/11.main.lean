/-! THE BRIDGE: what the pure machine answers, the real one does. -/
def rk_rm (d : Nat) (h h' : rk_S) : Room := { frames := d, cells := h'.length - h.length, slots := rk_sz h' - rk_sz h, locals := 40 * d }
def rk_ws (M : rk_M) : List Cond := .code M.1 M.2.1 M.2.2.1 M.2.2.2.1 :: rk_W
def rk_Pc (E : rk_E) (av : List Value) (h : rk_S) : Array Value → State → Prop := fun v U => v = (av.map (rk_v E)).toArray ∧ rk_P E h U.heap ∧ rk_K E U
def rk_Qc (E : rk_E) (o : Option Value × rk_S) : Array Value → State → Outcome → State → Prop := fun _ _ oc t => oc = .returned (o.1.map (rk_v E)) ∧ rk_P E o.2 t.heap
def rk_fr (E : rk_E) : Addr → Prop := fun q => E.2.2.2.2 ≤ q
section RKB
variable {p : Program} {l : Launch} {e : Env} {R : Room} {s : State} {m : MethodId} {args : Array Value} {below : List Frame} {meth : Method} {c : Code} {Q : State → Prop}
variable {E : rk_E} {M : rk_M} {h0 : rk_S} {pc : Nat} {lv : rk_L} {h : rk_S} {ls : Array Slot} {H : Heap} {locs : List Loc} {cells slots : Nat} {r : List Value}
/-- a call that gives back a value, or none -/
theorem rk_call {mc ms : Nat} {st0 rest : List Value} {a : Array Value} {o : Option Value × rk_S} (hr : va_Run p l e R s m args below meth c H locs cells slots mc ms (F0 m pc ls st0) rest (rk_Qc E o a) (rk_fr E))
    (kk : ∀ (H1 : Heap) (locs1 : List Loc), rk_P E o.2 H1 → (∀ q ∈ locs1, q ∈ locs ∨ E.2.2.2.2 ≤ q.base) → W p l e R s m args below meth c H1 locs1 (cells + mc) (slots + ms) Q (F0 m (pc + 3) ls ((o.1.map (rk_v E)).toList ++ rest))) : W p l e R s m args below meth c H locs cells slots Q (F0 m pc ls st0) := by
  intro T hT X
  obtain ⟨v, st₀, t, T', L, h0, X', hL, e1, e2, ⟨hv, hp⟩, st⟩ := hr T hT X
  cases hv
  obtain ⟨t2, a1, b1⟩ := kk T'.heap (locs ++ L) (by rw [e1]; exact hp) (fun q hq => by
    rcases List.mem_append.mp hq with z | z
    · exact Or.inl z
    · exact Or.inr (hL q z)) T' rfl X'
  exact ⟨t2, st t2 a1, b1⟩
end RKB
theorem rk_Pc_blind (E : rk_E) (av : List Value) (h : rk_S) : FrameBlind (rk_Pc E av h) := fun a U g mk q => ⟨q.1, q.2.1, rk_K.moved (u := U) (U := U.calling g mk a) (State.WarmedH.refl U) q.2.2⟩
theorem rk_gx_ok {M : rk_M} {av r : List Value} {ar : List Value × List Value} (h : rk_gx M av r = some ar) : ar = (av, r) ∧ (r.map fun v => v.category).sum ≤ 8 ∧ (lg_sl av).length ≤ M.2.2.1 ∧ M.2.2.1 ≤ 21 := by
  unfold rk_gx at h
  rw [cond_eq_ite] at h
  split at h
  · rename_i e
    simp only [Bool.and_eq_true, Nat.ble_eq] at e
    cases h
    exact ⟨rfl, e⟩
  · cases h
theorem rk_go_ok {M : rk_M} {na kd : Nat} {st : List Value} {h : rk_S} {ar : List Value × List Value} (hg : rk_go M na kd st h = some ar) : (ar.2.map fun v => v.category).sum ≤ 8 ∧ (lg_sl ar.1).length ≤ M.2.2.1 ∧ M.2.2.1 ≤ 21 ∧
    (((kd = 0 ∨ kd = 4) ∧ ar.1.length = na ∧ st = ar.1.reverse ++ ar.2) ∨ (kd ≠ 0 ∧ kd ≠ 4 ∧ ∃ (b : Nat) (As : List Value) (q : Nat × List Value), ar.1 = .ref b :: As ∧ As.length = na ∧ st = As.reverse ++ .ref b :: ar.2 ∧ h[b]? = some q ∧ (kd = 2 ∨ q.1 = M.2.2.2.2.1))) := by
  unfold rk_go at hg
  rw [cond_eq_ite] at hg
  split at hg
  · rename_i hn
    have hn := Nat.le_of_ble_eq_true hn
    rw [cond_eq_ite] at hg
    split at hg
    · rename_i hk
      simp only [Bool.or_eq_true, rk_beq] at hk
      obtain ⟨rfl, h1, h2, h3⟩ := rk_gx_ok hg
      exact ⟨h1, h2, h3, Or.inl ⟨hk, by simp; omega, by simp⟩⟩
    · rename_i hk
      simp only [Bool.or_eq_true, rk_beq, not_or] at hk
      split at hg
      · rename_i b r hd
        split at hg
        · rename_i q hq
          rw [cond_eq_ite] at hg
          split at hg
          · rename_i hc
            simp only [Bool.or_eq_true, rk_beq] at hc
            obtain ⟨rfl, h1, h2, h3⟩ := rk_gx_ok hg
            exact ⟨h1, h2, h3, Or.inr ⟨hk.1, hk.2, b, (st.take na).reverse, q, rfl, by simp; omega, by rw [List.reverse_reverse, ← hd, List.take_append_drop], hq, hc⟩⟩
          · cases hg
        · cases hg
      · cases hg
  · cases hg
theorem rk_inv_ok {M : rk_M} {i : Instr} {q : Nat × Nat × Nat} (h : rk_inv M i = some q) : ∃ x, (x, q) ∈ rk_ml M.2.2.2.2.1 ∧ ((i = .invokestatic x ∧ (q.2.2 = 0 ∨ q.2.2 = 4 ∨ q.2.2 = 5)) ∨ (i = .invokevirtual x ∧ q.2.2 = 1) ∨ (i = .invokespecial x ∧ (q.2.2 = 2 ∨ q.2.2 = 3))) := by
  unfold rk_inv at h
  split at h
  · rename_i x
    split at h
    · rename_i q' hq
      rw [cond_eq_ite] at h
      split at h
      · rename_i e
        simp only [Bool.or_eq_true, rk_beq] at e
        cases h
        exact ⟨x, rk_find_mem hq, Or.inl ⟨rfl, e⟩⟩
      · cases h
    · cases h
  · rename_i x
    split at h
    · rename_i q' hq
      rw [cond_eq_ite] at h
      split at h
      · rename_i e
        cases h
        exact ⟨x, rk_find_mem hq, Or.inr (Or.inl ⟨rfl, Nat.eq_of_beq_eq_true e⟩)⟩
      · cases h
    · cases h
  · rename_i x
    split at h
    · rename_i q' hq
      rw [cond_eq_ite] at h
      split at h
      · rename_i e
        simp only [Bool.or_eq_true, rk_beq] at e
        cases h
        exact ⟨x, rk_find_mem hq, Or.inr (Or.inr ⟨rfl, e⟩)⟩
      · cases h
    · cases h
  · cases h
theorem rk_good' {M : rk_M} (hM : M ∈ rk_Ms) : GoodIn rk_W (rk_ws M) := by
  intro w hw
  rcases List.mem_cons.mp hw with rfl | hw
  · exact rk_good _ (rk_in (rk_P0_ok M hM).1 rfl)
  · exact rk_good w hw
/-- what a whole run of M from its start means of the real machine -/
def rk_Met (n : Nat) : Prop := ∀ (l : Launch) (E : rk_E) (d : Nat) (M : rk_M) (av : List Value) (h : rk_S) (o : Option Value × rk_S), M ∈ rk_Ms → (lg_sl av).length ≤ M.2.2.1 → rk_ex n d M 0 (lv_args 0 av) [] h = some o →
  Met l M.1 (rk_ws M) (rk_rm d h o.2) (rk_Pc E av h) (rk_Qc E o) (o.2.length - h.length) (rk_sz o.2 - rk_sz h) (rk_fr E)
