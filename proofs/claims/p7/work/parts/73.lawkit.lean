/-! the law's turns: the script, the arguments, the calls -/
def lw_lv (i : Int32) : rk_L := [(3, .int i), (2, .ref 316), (1, .ref 1), (0, .ref 0)]
/-- what stays over every call -/
def lB (L : Nat) (xs : Nat → Int32) (h : rk_S) : Prop := h[0]? = some (rk_scr L xs) ∧ rk_Iv rk_Y h ∧ h.length = 345 ∧ rk_sz h = rk_sz (rk_scr L xs :: rk_HM.tail)
/-- the counts are alike -/
def lC (h : rk_S) : Prop := rk_iv h 2 5 = rk_iv h 316 0 ∧ rk_iv h 294 1 = rk_iv h 316 45
section RKlaw
variable {D L : Nat} {xs : Nat → Int32} {i : Int32} {h : rk_S} {m : Nat} {Q : Option Value → rk_S → Prop} {st r : List Value} {pc : Nat}
theorem lw_at (hB : lB L xs h) {j : Int32} {k : Nat} (hj : j.toInt = k) (hk : k < L) {a : Nat} (t : rk_find rm_L_law.2.2.2.2.2 pc = some (.iaload, 1)) (kk : rk_wp D rm_L_law (pc + 1) (lw_lv i) (.int (xs k) :: st) h Q) : rk_wp D rm_L_law pc (lw_lv i) (.int j :: .ref 0 :: st) h Q := by
  refine wp_stp (t := (pc + 1, lw_lv i, .int (xs k) :: st, h)) t ?_ kk
  have hc : j.toNatClampNeg = k := by have := rk_clamp (j := j) (by omega); omega
  show rk_ald pc (lw_lv i) (.int j :: .ref 0 :: st) h (fun k => Nat.beq k 9 || Nat.beq k 14) = _
  refine rk_ald_k (ok := fun k => Nat.beq k 9 || Nat.beq k 14) (kd := 14) rfl hB.1 (by omega) ?_
  rw [hc, List.getElem?_map, List.getElem?_range hk]
  rfl
theorem lw_arg (n : Int) (hB : lB L xs h) (hm : i.toInt = m) {k : Nat} (hn : (Int32.ofInt n).toInt = n) (hk : (k : Int) = m + n) (h1 : 0 ≤ n) (h2 : k < L) (hL : L ≤ 2560) (t0 : rk_find rm_L_law.2.2.2.2.2 pc = some (.aload_n 0, 1)) (t1 : rk_find rm_L_law.2.2.2.2.2 (pc + 1) = some (.iload_n 3, 1)) (t2 : rk_find rm_L_law.2.2.2.2.2 (pc + 2) = some (.iconst n, 1)) (t3 : rk_find rm_L_law.2.2.2.2.2 (pc + 3) = some (.iadd, 1)) (t4 : rk_find rm_L_law.2.2.2.2.2 (pc + 4) = some (.iaload, 1)) (kk : rk_wp D rm_L_law (pc + 5) (lw_lv i) (.int (xs k) :: st) h Q) : rk_wp D rm_L_law pc (lw_lv i) st h Q := by
  refine wp_stp (t := (pc + 1, lw_lv i, .ref 0 :: st, h)) t0 rfl ?_
  refine wp_stp (t := (pc + 2, lw_lv i, .int i :: .ref 0 :: st, h)) t1 rfl ?_
  refine wp_stp (t := (pc + 3, lw_lv i, .int (Int32.ofInt n) :: .int i :: .ref 0 :: st, h)) t2 rfl ?_
  refine wp_stp (t := (pc + 4, lw_lv i, .int (i + Int32.ofInt n) :: .ref 0 :: st, h)) t3 rfl ?_
  refine lw_at hB (k := k) (a := 0) ?_ h2 t4 kk
  rw [Int32.toInt_add, hm, hn, hk]
  exact rk_bm (by omega) (by omega)
theorem x_cat1 {l : List Value} (h : ∀ v ∈ l, v.category = 1) : (l.map fun v => v.category).sum = l.length ∧ (lg_sl l).length = l.length := by
  induction l with
  | nil => exact ⟨rfl, rfl⟩
  | cons v l ih =>
    obtain ⟨h1, h2⟩ := ih (fun w hw => h w (List.mem_cons_of_mem _ hw))
    have hv := h v List.mem_cons_self
    refine ⟨by rw [List.map_cons, List.sum_cons, h1, hv, List.length_cons, Nat.add_comm], ?_⟩
    unfold lg_sl at h2 ⊢
    rw [List.flatMap_cons, List.length_append, h2, if_neg (by rw [hv]; decide), List.length_cons, List.length_cons, List.length_nil]
    omega
theorem lw_go {M' : rk_M} {a na : Nat} {av r : List Value} {q : Nat × List Value} (hq : h[a]? = some q) (hk : q.1 = M'.2.2.2.2.1) (hn : av.length = na) (hc : ∀ v ∈ av, v.category = 1) (hr : ∀ v ∈ r, v.category = 1) (hr8 : r.length ≤ 8) (hl : na + 1 ≤ M'.2.2.1) (h21 : M'.2.2.1 ≤ 21) : rk_go M' na 1 (av.reverse ++ .ref a :: r) h = some (.ref a :: av, r) := by
  unfold rk_go
  have e1 : Nat.ble na (av.reverse ++ Value.ref a :: r).length = true := Nat.ble_eq_true_of_le (by rw [List.length_append, List.length_reverse]; omega)
  have e2 : (av.reverse ++ Value.ref a :: r).take na = av.reverse := List.take_left' (by rw [List.length_reverse]; exact hn)
  have e3 : (av.reverse ++ Value.ref a :: r).drop na = Value.ref a :: r := List.drop_left' (by rw [List.length_reverse]; exact hn)
  rw [e1, e2, e3]
  dsimp only [cond, Nat.beq, Bool.or]
  rw [hq]
  dsimp only
  rw [hk, show Nat.beq M'.2.2.2.2.1 M'.2.2.2.2.1 = true from Nat.beq_refl _, List.reverse_reverse]
  unfold rk_gx
  have c1 := x_cat1 hr
  have c2 := x_cat1 (l := .ref a :: av) (fun v hv => by rcases List.mem_cons.mp hv with rfl | hv; rfl; exact hc v hv)
  rw [c1.1, c2.2, Nat.ble_eq_true_of_le hr8, Nat.ble_eq_true_of_le h21, List.length_cons, hn, Nat.ble_eq_true_of_le hl]
  rfl
/-- a call of the law -/
theorem lw_call {x n na a : Nat} {M' : rk_M} {av : List Value} {kd nn : Nat} {ts : List rk_ST} {w : xD} {Q' : Option Value → rk_S → Prop} (hB : lB L xs h) (hix : rk_find rm_L_law.2.2.2.2.2 pc = some (.invokevirtual x, 3)) (hq : rk_inv rm_L_law (.invokevirtual x) = some (n, na, 1)) (hM : rk_m n = some M') (hi : ¬ M'.1.name = "<init>") (hT : xty a = some (kd, nn, ts)) (hk : kd = M'.2.2.2.2.1) (hn : av.length = na) (hc : ∀ v ∈ av, v.category = 1) (hr : ∀ v ∈ r, v.category = 1) (hr8 : r.length ≤ 8) (hl : na + 1 ≤ M'.2.2.1) (h21 : M'.2.2.1 ≤ 21) (hw0 : ∀ k, ¬ xCov w 0 k)
    (hw : rk_wp D M' 0 (lv_args 0 (.ref a :: av)) [] h (fun v h' => rk_Iv rk_Y h' ∧ (∀ b k, ¬ xCov w b k → rk_get h' b k = rk_get h b k) ∧ Q' v h'))
    (kk : ∀ v h', lB L xs h' → (∀ b k, ¬ xCov w b k → rk_iv h' b k = rk_iv h b k) → Q' v h' → rk_wp (D + 1) rm_L_law (pc + 3) (lw_lv i) (v.toList ++ r) h' Q) : rk_wp (D + 1) rm_L_law pc (lw_lv i) (av.reverse ++ .ref a :: r) h Q := by
  obtain ⟨vs, g1, -, -⟩ := hB.2.1 a _ (xty_Y hT)
  refine wp_call (ar := (.ref a :: av, r)) hix hq (by show (1 : Nat) ≠ 3; decide) (by show (1 : Nat) ≠ 5; decide) hM (lw_go g1 hk hn hc hr hr8 hl h21) (x_kept (List.mem_of_getElem? hM) hi hw) (fun v h' hv => ?_)
  obtain ⟨⟨p1, p2, p3⟩, p4, p5, p6⟩ := hv
  exact kk v h' ⟨x_scr hB.1 p6 (fun k => p2 0 k (hw0 k)), p1, by rw [p4]; exact hB.2.2.1, by rw [p5]; exact hB.2.2.2⟩ (fun b k hn => rk_iv_eq (p2 b k hn)) p3
/-- a call that leaves the counts -/
theorem lw_side {x n na a : Nat} {M' : rk_M} {av : List Value} {kd nn : Nat} {ts : List rk_ST} {c : xCt} (hk0 : xCon n c) (hB : lB L xs h) (hC : lC h) (hix : rk_find rm_L_law.2.2.2.2.2 pc = some (.invokevirtual x, 3)) (hq : rk_inv rm_L_law (.invokevirtual x) = some (n, na, 1)) (hM : rk_m n = some M') (hi : ¬ M'.1.name = "<init>") (hT : xty a = some (kd, nn, ts)) (hk : kd = M'.2.2.2.2.1) (hn : av.length = na) (hc : ∀ v ∈ av, v.category = 1) (hl : na + 1 ≤ M'.2.2.1) (h21 : M'.2.2.1 ≤ 21) (hD : c.1 ≤ D) (hw0 : ∀ k, ¬ xCov c.2.2.1 0 k) (hw1 : ¬ xCov c.2.2.1 2 5) (hw2 : ¬ xCov c.2.2.1 294 1) (hw3 : ¬ xCov c.2.2.1 316 0) (hw4 : ¬ xCov c.2.2.1 316 45) (hres : c.2.2.2 = some x_any) (ha : xArg c.2.1 (.ref a :: av))
    (kk : ∀ (y : Int32) h', lB L xs h' → lC h' → rk_wp (D + 1) rm_L_law (pc + 3) (lw_lv i) [.int y] h' Q) : rk_wp (D + 1) rm_L_law pc (lw_lv i) (av.reverse ++ [.ref a]) h Q := by
  obtain ⟨M2, e1, e2⟩ := hk0
  cases hM.symm.trans e1
  refine lw_call (r := []) (w := c.2.2.1) (Q' := fun v _ => xRes c.2.2.2 v) hB hix hq hM hi hT hk hn hc (fun v hv => absurd hv List.not_mem_nil) (Nat.zero_le _) hl h21 hw0 (e2 D _ h hD hB.2.1 ha) (fun v h' hB' hf hr => ?_)
  rw [hres] at hr
  cases v with
  | none => exact absurd hr id
  | some v =>
    obtain ⟨y, rfl, -⟩ := rk_okI hr
    refine kk y h' hB' ⟨?_, ?_⟩
    · rw [hf 2 5 hw1, hf 316 0 hw3]; exact hC.1
    · rw [hf 294 1 hw2, hf 316 45 hw4]; exact hC.2
theorem lw_sw {v : Int32} {k tg : Nat} {off : Int} {d lo hi : Int} {offs : Array Int} {len : Nat} (t : rk_find rm_L_law.2.2.2.2.2 pc = some (.tableswitch d lo hi offs, len)) (hk : v.toInt = k) (hlo : lo ≤ k) (hhi : (k : Int) ≤ hi) (ho : offs[((k : Int) - lo).toNat]? = some off) (hj : rk_jmp pc off = some tg) (he : rk_wp D rm_L_law tg (lw_lv i) [] h Q) : rk_wp D rm_L_law pc (lw_lv i) [.int v] h Q := by
  refine wp_stp (t := (tg, lw_lv i, [], h)) t ?_ he
  have q : ¬ (v.toInt < lo ∨ hi < v.toInt) := by omega
  rw [← hk] at ho
  simp only [rk_stp, rk_sw, decide_eq_false q, cond_false, ho, hj, Option.map_some]
theorem lw_sd {v : Int32} {tg : Nat} {d lo hi : Int} {offs : Array Int} {len : Nat} (t : rk_find rm_L_law.2.2.2.2.2 pc = some (.tableswitch d lo hi offs, len)) (q : v.toInt < lo ∨ hi < v.toInt) (hj : rk_jmp pc d = some tg) (he : rk_wp D rm_L_law tg (lw_lv i) [] h Q) : rk_wp D rm_L_law pc (lw_lv i) [.int v] h Q := by
  refine wp_stp (t := (tg, lw_lv i, [], h)) t ?_ he
  simp only [rk_stp, rk_sw, decide_eq_true q, cond_true, hj, Option.map_some]
end RKlaw
theorem lw_PW {b k : Nat} (h : xCov [((1, 1), (8, 9)), ((3, 293), (-1, 10000))] b k) : (b = 1 ∧ 8 ≤ k) ∨ (3 ≤ b ∧ b ≤ 293) := by
  obtain ⟨c, h1, h2, h3, h4, h5⟩ := h
  simp only [List.mem_cons, List.not_mem_nil, or_false] at h1
  rcases h1 with rfl | rfl <;> dsimp only at h2 h3 h4 h5 <;> omega
theorem lw_RP {b k : Nat} (h : xCov [((316, 316), (1, 44)), ((317, 343), (-1, 10000))] b k) : (b = 316 ∧ 1 ≤ k ∧ k ≤ 44) ∨ (317 ≤ b ∧ b ≤ 343) := by
  obtain ⟨c, h1, h2, h3, h4, h5⟩ := h
  simp only [List.mem_cons, List.not_mem_nil, or_false] at h1
  rcases h1 with rfl | rfl <;> dsimp only at h2 h3 h4 h5 <;> omega
theorem lw_B (b : Bool) : xinB (Int32.ofInt (bif b then 1 else 0)).toInt [(0, 1)] := by cases b <;> exact xin_1 (by decide) (by decide)
