/-! one run, one end: contracts and exact runs over partial ones -/
theorem rk_ex_dep : ∀ (n d : Nat) (M : rk_M) (pc : Nat) (lv : rk_L) (st : List Value) (h : rk_S) (o : Option Value × rk_S), rk_ex n d M pc lv st h = some o → rk_ex n (d + 1) M pc lv st h = some o
  | 0, _, _, _, _, _, _, _, E => by cases E
  | n + 1, d, M, pc, lv, st, h, o, E => by
    obtain ⟨ix, hix, hh⟩ := rk_ex_inv E
    rcases hh with ⟨t1, h1, h2⟩ | ⟨q, d', a, r, h1, rfl, h3, rfl, h8, h9⟩ | ⟨q, d', x, y, r, h1, rfl, h5, rfl, h8, h9⟩ | ⟨q, d', M', ar, o', h1, rfl, h3, h5, h7, h8, h9, h10⟩ | ⟨v, h1, rfl⟩
    · exact rk_ex_stp hix h1 (rk_ex_dep n d _ _ _ _ _ _ h2)
    · exact rk_ex_obj hix h1 h3 h8 (rk_ex_dep n _ _ _ _ _ _ _ h9)
    · exact rk_ex_max hix h1 h5 h8 (rk_ex_dep n _ _ _ _ _ _ _ h9)
    · exact rk_ex_call hix h1 h3 h5 h7 h8 (rk_ex_dep n _ _ _ _ _ _ _ h9) (rk_ex_dep n _ _ _ _ _ _ _ h10)
    · exact rk_ex_ret hix h1
section RKDET
variable {n n' d d' D : Nat} {M : rk_M} {pc : Nat} {lv : rk_L} {st : List Value} {h : rk_S} {o o' : Option Value × rk_S} {Q Q' : Option Value → rk_S → Prop}
theorem rk_ex_dle (k : Nat) (E : rk_ex n d M pc lv st h = some o) : rk_ex n (d + k) M pc lv st h = some o := by
  induction k with
  | zero => exact E
  | succ k ih => exact rk_ex_dep _ _ _ _ _ _ _ _ ih
theorem E_det (E : rk_ex n d M pc lv st h = some o) (E' : rk_ex n' d' M pc lv st h = some o') : o = o' := by
  have e1 := rk_ex_le (k := n + n') (by omega) (rk_ex_dle d' E)
  have e2 := rk_ex_le (k := n + n') (by omega) (rk_ex_dle d E')
  rw [Nat.add_comm d' d] at e2
  rw [e1] at e2
  injection e2
theorem E_wp (hw : rk_wp D M pc lv st h Q) (E : rk_ex n d M pc lv st h = some o) : Q o.1 o.2 := by
  obtain ⟨o', ⟨k, hk⟩, hq⟩ := hw
  rw [E_det E hk]
  exact hq
theorem E_con {m : Nat} {c : xCt} {av : List Value} (hk : xCon m c) (hM : rk_m m = some M) (hI : rk_Iv rk_Y h) (ha : xArg c.2.1 av) (E : rk_ex n d M 0 (lv_args 0 av) [] h = some o) : rk_Iv rk_Y o.2 ∧ (∀ b k, ¬ xCov c.2.2.1 b k → rk_get o.2 b k = rk_get h b k) ∧ xRes c.2.2.2 o.1 := by
  obtain ⟨M2, e1, e2⟩ := hk
  cases hM.symm.trans e1
  exact E_wp (e2 c.1 av h (Nat.le_refl _) hI ha) E
theorem wp_and (hw : rk_wp D M pc lv st h Q) (hp : ∀ n o, rk_ex n D M pc lv st h = some o → Q' o.1 o.2) : rk_wp D M pc lv st h (fun v h' => Q v h' ∧ Q' v h') := by
  obtain ⟨o', ⟨k, hk⟩, hq⟩ := hw
  exact ⟨o', ⟨k, hk⟩, hq, hp k o' hk⟩
theorem xRes_int {b : xB} {v : Option Value} (hr : xRes (some (.inl b)) v) : ∃ x, v = some (.int x) ∧ xinB x.toInt b := by
  cases v with
  | none => exact absurd hr id
  | some v =>
    obtain ⟨y, rfl, hy⟩ := rk_okI hr
    exact ⟨y, rfl, hy⟩
end RKDET
theorem gi_iv (h : rk_S) (a k : Nat) : (gi h a k).toInt = rk_iv h a k := by
  unfold gi rk_iv
  split
  · rename_i x e
    rw [e]
  · rename_i hn
    split
    · rename_i x e
      exact absurd e (hn x)
    · rfl
theorem rk_iv_gi {h h' : rk_S} {a k a' k' : Nat} (e : gi h a k = gi h' a' k') : rk_iv h a k = rk_iv h' a' k' := by rw [← gi_iv, ← gi_iv, e]
theorem yG_lB {L : Nat} {xs : Nat → Int32} {h : rk_S} (hB : lB L xs h) : yG h := yG_of hB.2.1 hB.2.2.1 hB.1 (fun v hv => by
  obtain ⟨j, -, rfl⟩ := List.mem_map.mp hv
  exact ⟨_, rfl⟩)
theorem y_dv {c : Int32} (h0 : 0 ≤ c.toInt) : (c / (100 : Int32)).toInt = c.toInt / 100 ∧ (c - c / (100 : Int32) * (100 : Int32)).toInt = c.toInt % 100 := by
  obtain ⟨q1, q2⟩ := x_div (x := c) (y := (100 : Int32)) (c := 100) rfl (by omega)
  rw [q1, q2, Int.tdiv_eq_ediv_of_nonneg h0, Int.tmod_eq_emod_of_nonneg h0]
  exact ⟨rfl, rfl⟩
/-- a run keeps the shape -/
theorem E_yG {n d : Nat} {M : rk_M} {pc : Nat} {lv : rk_L} {st : List Value} {h : rk_S} {o : Option Value × rk_S} (hG : yG h) (hM : M ∈ rk_Ms) (hi : ¬ M.1.name = "<init>") (E : rk_ex n d M pc lv st h = some o) (hI : rk_Iv rk_Y o.2) (h0 : ∀ k, rk_get o.2 0 k = rk_get h 0 k) : yG o.2 := by
  obtain ⟨k1, k2⟩ := rk_ex_keep n d M pc lv st h o hM hi E
  have k3 := rk_ex_kind n d M pc lv st h o E
  have hl : 0 < h.length := by rw [hG.2.2]; decide
  have hq := List.getElem?_eq_getElem hl
  refine yG_of2 hG hI k1 ?_
  obtain ⟨q, h1, h2⟩ := k3 0 _ hq
  rw [h1, hq]
  have : q.2 = h[0].2 := by
    refine List.ext_getElem? (fun k => ?_)
    have := h0 k
    unfold rk_get at this
    rw [hq, h1] at this
    exact this
  exact congrArg some (Prod.ext h2 this)
theorem E_conG {n d : Nat} {M : rk_M} {h : rk_S} {o : Option Value × rk_S} {m : Nat} {c : xCt} {av : List Value} (hk : xCon m c) (hM : rk_m m = some M) (hi : ¬ M.1.name = "<init>") (hG : yG h) (hI : rk_Iv rk_Y h) (hw0 : ∀ k, ¬ xCov c.2.2.1 0 k) (ha : xArg c.2.1 av) (E : rk_ex n d M 0 (lv_args 0 av) [] h = some o) : yG o.2 ∧ rk_Iv rk_Y o.2 ∧ (∀ b k, ¬ xCov c.2.2.1 b k → rk_get o.2 b k = rk_get h b k) ∧ xRes c.2.2.2 o.1 := by
  obtain ⟨h1, h2, h3⟩ := E_con hk hM hI ha E
  exact ⟨E_yG hG (List.mem_of_getElem? hM) hi E h1 (fun k => h2 0 k (hw0 k)), h1, h2, h3⟩
