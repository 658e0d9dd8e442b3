/-! what the reference's code and keep do to what is told -/
theorem cdm_eq {h h' : rk_S} (he : ∀ b k, b = 317 ∨ b = 318 → rk_get h' b k = rk_get h b k) (r : Nat) (c : Int) : cdm h' r c ↔ cdm h r c := by
  unfold cdm
  rw [rk_iv_eq (he 317 r (Or.inl rfl))]
  constructor
  · rintro ⟨i, h1, h2⟩
    exact ⟨i, h1, by rw [← h2]; exact (rk_iv_eq (he 318 _ (Or.inr rfl))).symm⟩
  · rintro ⟨i, h1, h2⟩
    exact ⟨i, h1, by rw [← h2]; exact rk_iv_eq (he 318 _ (Or.inr rfl))⟩
set_option maxRecDepth 100000 in
theorem yln_319 : yln 319 = 10 ∧ yln 317 = 10 ∧ yln 318 = 400 ∧ yln 322 = 2 := ⟨rfl, rfl, rfl, rfl⟩
theorem bt_none0 {x : Int32} : x.toInt = 0 ↔ ∀ b, ¬ bt x b = true := by
  constructor
  · intro h b
    rw [show x = 0 from Int32.toInt_inj.mp h, bt_zero]
    exact Bool.false_ne_true
  · intro h
    rw [show x = 0 from bt_ext (fun b _ => by
      rw [bt_zero]
      cases e : bt x b with
      | false => rfl
      | true => exact absurd e (h b))]
    rfl
theorem mc_loop {N : Nat} (hN10 : N ≤ 10) : ∀ (n d : Nat) (h : rk_S) (o : Option Value × rk_S) (q c k : Int32) (kn : Nat), yG h → rk_iv h 316 0 = N → (∀ k, k < 10 → rk_iv h 317 k ≤ 40) → (∀ r, r < 10 → N ≤ r → rk_iv h 317 r = 0) → (∀ r, r < 10 → rk_iv h 319 r = 0 ∨ rk_iv h 319 r = 1) → k.toInt = kn → kn ≤ N → rk_ex n d rm_X8_code 70 [(0, .ref 316), (1, .int q), (2, .int c), (3, .int k)] [] h = some o → (∀ b k, ¬ b = 319 → rk_get o.2 b k = rk_get h b k) ∧ ∀ r, r < 10 → ((r < kn ∨ N ≤ r) → rk_iv o.2 319 r = rk_iv h 319 r) ∧ (kn ≤ r → r < N → (rk_iv o.2 319 r = 1 ↔ (rk_iv h 319 r = 1 ∧ ∀ b, ¬ may (cdm h) 15 r b))) := by
  intro n
  induction n using Nat.strongRecOn with
  | ind n ih =>
    intro d h o q c k kn hG hN hlen hz h01 hk hkN E
    have ek := y_ix hk
    have hk1 := y_inc hk (by omega)
    have A := yt_mc2 hG E
    simp only [gi_iv, hN, ek] at A
    have stp : ∀ (m : Nat) (v : Int32), m < n → yG (rk_pt h 319 kn (.int v)) → kn < N → (v.toInt = 0 ∨ v.toInt = 1) → (v.toInt = 1 ↔ (rk_iv h 319 kn = 1 ∧ ∀ b, ¬ may (cdm h) 15 kn b)) → rk_ex m d rm_X8_code 70 [(0, .ref 316), (1, .int q), (2, .int c), (3, .int (k + 1))] [] (rk_pt h 319 kn (.int v)) = some o → (∀ b k, ¬ b = 319 → rk_get o.2 b k = rk_get h b k) ∧ ∀ r, r < 10 → ((r < kn ∨ N ≤ r) → rk_iv o.2 319 r = rk_iv h 319 r) ∧ (kn ≤ r → r < N → (rk_iv o.2 319 r = 1 ↔ (rk_iv h 319 r = 1 ∧ ∀ b, ¬ may (cdm h) 15 r b))) := by
      intro m v hm hG1 hkn hv hv1 E1
      have f1 : ∀ b k, ¬ b = 319 → rk_get (rk_pt h 319 kn (.int v)) b k = rk_get h b k := fun b k hb => rk_get_ne (Or.inl (fun e => hb e.symm))
      have f2 : rk_iv (rk_pt h 319 kn (.int v)) 319 kn = v.toInt := by rw [← gi_iv, hG.gi_put (by decide) (by decide) (by rw [yln_319.1]; omega)]
      have f3 : ∀ r, r ≠ kn → rk_iv (rk_pt h 319 kn (.int v)) 319 r = rk_iv h 319 r := fun r hr => rk_iv_eq (rk_get_ne (Or.inr (fun e => hr e.symm)))
      obtain ⟨g1, g2⟩ := ih m hm d _ o q c (k + 1) (kn + 1) hG1 (by rw [rk_iv_eq (f1 316 0 (by omega))]; exact hN) (fun j hj => by rw [rk_iv_eq (f1 317 j (by omega))]; exact hlen j hj) (fun r hr hn => by rw [rk_iv_eq (f1 317 r (by omega))]; exact hz r hr hn) (fun r hr => by
        by_cases e : r = kn
        · rw [e, f2]; exact hv
        · rw [f3 r e]; exact h01 r hr) hk1 (by omega) E1
      have hX := fun (r : Nat) (x : Int) => cdm_eq (h := h) (h' := rk_pt h 319 kn (.int v)) (fun b k hb => f1 b k (by omega)) r x
      refine ⟨fun b k hb => (g1 b k hb).trans (f1 b k hb), fun r hr => ⟨fun hr2 => ?_, fun hr2 hr3 => ?_⟩⟩
      · rw [(g2 r hr).1 (by omega), f3 r (by omega)]
      · by_cases e : r = kn
        · subst e
          rw [(g2 r hr).1 (Or.inl (by omega)), f2]
          exact hv1
        · rw [(g2 r hr).2 (by omega) hr3, f3 r e]
          constructor
          · rintro ⟨a, b⟩
            exact ⟨a, fun i z => b i ((may_iff (fun r x _ => hX r x) 15 r i).mpr z)⟩
          · rintro ⟨a, b⟩
            exact ⟨a, fun i z => b i ((may_iff (fun r x _ => hX r x) 15 r i).mp z)⟩
    rcases A with ⟨c1, -, rfl⟩ | ⟨c1, c2, m, hm, hG1, E1⟩ | ⟨c1, c2, m, hm, -, E1⟩
    · exact ⟨fun _ _ _ => rfl, fun r hr => ⟨fun _ => rfl, fun z1 z2 => by omega⟩⟩
    · refine stp m _ hm hG1 (by omega) (Or.inl rfl) ⟨fun z => absurd z (by decide), fun z => ?_⟩ E1
      rw [z.1] at c2
      omega
    · obtain ⟨m1, d1, o1, hm1, E2, E3⟩ := E_call (ar := ([.ref 316, .int k], [.int k, .ref 319])) rfl rfl rfl rfl rfl rfl E1
      replace E2 : rk_ex m1 d1 rm_X8_actingOf 0 [(0, .ref 316), (1, .int k)] [] h = some o1 := E2
      obtain ⟨u, rfl, hu⟩ := mac_ok hG hN hN10 hlen hz hk (by omega) E2
      replace E3 : rk_ex m1 d rm_X8_code 97 [(0, .ref 316), (1, .int q), (2, .int c), (3, .int k)] [.int u, .int k, .ref 319] h = some o := E3
      have hu0 : u.toInt = 0 ↔ ∀ b, ¬ may (cdm h) 15 kn b := by
        rw [bt_none0]
        exact ⟨fun z b w => z b ((hu b).mpr w), fun z b w => z b ((hu b).mp w)⟩
      have h1 : rk_iv h 319 kn = 1 := by
        rcases h01 kn (by omega) with z | z
        · exact absurd z c2
        · exact z
      have B := yt_mc3 hG E3
      simp only [ek] at B
      rcases B with ⟨c3, m2, hm2, hG2, E4⟩ | ⟨c3, m2, hm2, hG2, E4⟩
      · exact stp m2 _ (by omega) hG2 (by omega) (Or.inl rfl) ⟨fun z => absurd z (by decide), fun z => absurd (hu0.mpr z.2) c3⟩ E4
      · exact stp m2 _ (by omega) hG2 (by omega) (Or.inr rfl) ⟨fun _ => ⟨h1, hu0.mp c3⟩, fun _ => rfl⟩ E4
/-- what is told, behind a code that was taken -/
def TM (h h' : rk_S) : Prop := ∀ r : Nat, r < 10 → (rk_iv h 316 0 ≤ r → rk_iv h' 319 r = rk_iv h 319 r) ∧ ((r : Int) < rk_iv h 316 0 → (rk_iv h' 319 r = 1 ↔ (rk_iv h 319 r = 1 ∧ ∀ b, ¬ may (cdm h') 15 r b)))
theorem ty_319 : x_aok 319 10 [(0, 1)] = true := by decide +kernel
theorem h01_of {h : rk_S} (hI : rk_Iv rk_Y h) (r : Nat) (hr : r < 10) : rk_iv h 319 r = 0 ∨ rk_iv h 319 r = 1 := by
  obtain ⟨xl, -, l2, l3⟩ := x_aok_ok hI ty_319 hr
  rw [← l3] at l2
  have := x_one1 l2
  omega
theorem codeM_T {n d : Nat} {h : rk_S} {o : Option Value × rk_S} {q c : Int32} (hG : yG h) (hI : rk_Iv rk_Y h) (hz : ∀ r : Nat, r < 10 → rk_iv h 316 0 ≤ r → rk_iv h 317 r = 0) (E : rk_ex n d rm_X8_code 0 [(0, .ref 316), (1, .int q), (2, .int c)] [] h = some o) : o.2 = h ∨ TM h o.2 := by
  obtain ⟨xn, -, n2, n3⟩ := x_fok_ok hI ty_3160
  rw [← n3] at n2
  have n4 := x_one1 n2
  have hlen : ∀ k, k < 10 → 0 ≤ rk_iv h 317 k ∧ rk_iv h 317 k ≤ 40 := by
    intro k hk
    obtain ⟨xl, -, l2, l3⟩ := x_aok_ok hI ty_317 (k := k) hk
    rw [← l3] at l2
    exact x_one1 l2
  have A := yt_mc hG E
  rw [y_dec (N := (rk_iv h 316 0).toNat) (by rw [gi_iv]; omega) (by omega)] at A
  rcases A with ⟨c1, -, rfl⟩ | ⟨c1, c2, -, rfl⟩ | ⟨c1, c2, m, -, -, E'⟩
  · exact Or.inl rfl
  · exact Or.inl rfl
  obtain ⟨m1, d1, o1, hm1, E1, E2⟩ := E_call (ar := ([.int c], [])) rfl rfl rfl rfl rfl rfl E'
  replace E1 : rk_ex m1 d1 rm_X8_isCode 0 [(0, .int c)] [] h = some o1 := E1
  obtain ⟨x, rfl⟩ := yt_mic hG E1
  replace E2 : rk_ex m1 d rm_X8_code 14 [(0, .ref 316), (1, .int q), (2, .int c)] [.int x] h = some o := E2
  have hq : q.toInt = (q.toInt.toNat : Nat) := by omega
  have eq := y_ix hq
  have hl := hlen q.toInt.toNat (by omega)
  have B := yt_mc1 hG E2
  rw [eq] at B
  rcases B with ⟨-, c3, m2, -, hG1, E3⟩ | ⟨-, -, -, rfl⟩ | ⟨-, -, rfl⟩
  · refine Or.inr ?_
    rw [gi_iv] at c3
    have e317 : (gi h 317 q.toInt.toNat).toInt = ((rk_iv h 317 q.toInt.toNat).toNat : Nat) := by rw [gi_iv]; omega
    have e1 : rk_iv (rk_pt (rk_pt (rk_pt h 318 ((((40 : Int32) * q) + (gi h 317 q.toInt.toNat)).toNatClampNeg) (.int c)) 317 q.toInt.toNat (.int ((gi h 317 q.toInt.toNat) + (1 : Int32)))) 322 0 (.int (0 : Int32))) 317 q.toInt.toNat = rk_iv h 317 q.toInt.toNat + 1 := by
      obtain ⟨_, w7, -, -, -, -, x7⟩ := hG.at (a := 317) (k := q.toInt.toNat) (by decide) (by decide) (by rw [yln_319.2.1]; omega)
      rw [← gi_iv, gi_x (by decide), gi_self (w := w7) (by rw [rk_get_ne (Or.inl (by decide))]; exact x7), y_inc e317 (by omega)]
      omega
    have e2 : ∀ b k, ¬ (b = 318) → ¬ (b = 317 ∧ k = q.toInt.toNat) → ¬ b = 322 → rk_get (rk_pt (rk_pt (rk_pt h 318 ((((40 : Int32) * q) + (gi h 317 q.toInt.toNat)).toNatClampNeg) (.int c)) 317 q.toInt.toNat (.int ((gi h 317 q.toInt.toNat) + (1 : Int32)))) 322 0 (.int (0 : Int32))) b k = rk_get h b k := fun b k z1 z2 z3 => (rk_get_ne (Or.inl (by omega))).trans ((rk_get_ne (by omega)).trans (rk_get_ne (Or.inl (by omega))))
    generalize rk_pt (rk_pt (rk_pt h 318 ((((40 : Int32) * q) + (gi h 317 q.toInt.toNat)).toNatClampNeg) (.int c)) 317 q.toInt.toNat (.int ((gi h 317 q.toInt.toNat) + (1 : Int32)))) 322 0 (.int (0 : Int32)) = H at *
    obtain ⟨g1, g2⟩ := mc_loop (N := (rk_iv h 316 0).toNat) (by omega) m2 d H o q c 0 0 hG1 (by rw [rk_iv_eq (e2 316 0 (by omega) (by omega) (by omega))]; omega) (fun k hk => by
      by_cases e : k = q.toInt.toNat
      · rw [e, e1]; omega
      · rw [rk_iv_eq (e2 317 k (by omega) (by omega) (by omega))]; exact (hlen k hk).2) (fun r hr hn => by
      rw [rk_iv_eq (e2 317 r (by omega) (by omega) (by omega))]; exact hz r hr (by omega)) (fun r hr => by
      rw [rk_iv_eq (e2 319 r (by omega) (by omega) (by omega))]; exact h01_of hI r hr) rfl (by omega) E3
    have hX := fun (r : Nat) (x : Int) => cdm_eq (h := H) (h' := o.2) (fun b k hb => g1 b k (by omega)) r x
    have e9 : ∀ r, rk_iv H 319 r = rk_iv h 319 r := fun r => rk_iv_eq (e2 319 r (by omega) (by omega) (by omega))
    refine fun r hr => ⟨fun hn => ?_, fun hn => ?_⟩
    · rw [(g2 r hr).1 (Or.inr (by omega)), e9]
    · rw [(g2 r hr).2 (by omega) (by omega), e9]
      constructor
      · rintro ⟨a, b⟩
        exact ⟨a, fun i z => b i ((may_iff (fun r x _ => hX r x) 15 r i).mp z)⟩
      · rintro ⟨a, b⟩
        exact ⟨a, fun i z => b i ((may_iff (fun r x _ => hX r x) 15 r i).mpr z)⟩
  · exact Or.inl rfl
  · exact Or.inl rfl
/-! keep of the reference: behind the telling -/
def kt_ls : xLs := [((123, 58), ([(.inl 4, [((-1), 31)]), (.inr (322, 0), [(0, 32)])], [], [], [((322, 333), (-1, 10000))], [[(0, (-1)), (1, (-1)), (2, 1)]], [(1, 1)]))] ++ [((105, 15), ([(.inl 2, [(0, 63)])], [], [], [((323, 333), (-1, 10000))], [], [(1, (-1))]))]
def kt_W : xD := [((316, 316), (21, 21)), ((322, 333), (-1, 10000))]
def kt_S : xW := (4, [(1, [(0, 9)]), (2, [(0, 1)]), (3, xany)], [], [])
def kt_lv : xL := [(3, .inl [(3, 1)]), (0, .inr [316]), (1, .inl [(1, 1)]), (2, .inl [(2, 1)])]
def kt_al : List (List xFc) := [[([none], [(3, (-1)), (4, 1)]), ([none], [(3, 1), (4, (-1))])]]
set_option maxRecDepth 100000 in
theorem kt_run : xenA 3 kt_al (xrun (xcnv kt_W) [(104, c_104)] kt_ls 400 3 [] none 123 43 kt_lv [] kt_S) = true := by decide +kernel
theorem kt_cov {b k : Nat} (h : xCov kt_W b k) : (b = 316 ∧ k = 21) ∨ (322 ≤ b ∧ b ≤ 333) := by
  obtain ⟨c, h1, h2, h3, h4, h5⟩ := h
  simp only [kt_W, List.mem_cons, List.not_mem_nil, or_false] at h1
  rcases h1 with rfl | rfl <;> dsimp only at h2 h3 h4 h5 <;> omega
theorem kt_ok {h : rk_S} {q z y : Int32} (hI : rk_Iv rk_Y h) (hq : 0 ≤ q.toInt ∧ q.toInt ≤ 9) (hz : 0 ≤ z.toInt ∧ z.toInt ≤ 1) : rk_wp 3 rm_X8_keep 43 [(3, .int y), (0, .ref 316), (1, .int q), (2, .int z)] [] h (fun v h' => rk_Iv rk_Y h' ∧ (∀ b k, ¬ xCov kt_W b k → rk_get h' b k = rk_get h b k) ∧ v = some (.int y)) := by
  refine wp_weak (xrunA_ok (P := xCov kt_W) (h0 := h) (rt := [q.toInt, z.toInt, y.toInt]) (x_cons k_104 x_nil) kt_run (rfl : rk_m 123 = some rm_X8_keep) (Nat.le_refl 3) (xcnv_ok rfl) ⟨?_, trivial, ⟨⟨rfl, ⟨rfl, fun i b hb => ?_⟩, fun t ht => absurd ht List.not_mem_nil⟩, fun p hp => absurd hp List.not_mem_nil, hI, fun b k _ => rfl⟩⟩ rfl) (fun v h' hv => ⟨hv.1, hv.2.1, ?_⟩)
  · intro k v hk
    rcases rk_find_cons hk with ⟨rfl, rfl⟩ | ⟨-, hk⟩
    · exact ⟨_, rfl, xE1 rfl (by omega)⟩
    rcases rk_find_cons hk with ⟨rfl, rfl⟩ | ⟨-, hk⟩
    · exact ⟨_, rfl, List.mem_cons_self⟩
    rcases rk_find_cons hk with ⟨rfl, rfl⟩ | ⟨-, hk⟩
    · exact ⟨_, rfl, xE1 rfl (by omega)⟩
    rcases rk_find_cons hk with ⟨rfl, rfl⟩ | ⟨-, hk⟩
    · exact ⟨_, rfl, xE1 rfl (by omega)⟩
    · cases hk
  · rcases rk_find_cons hb with ⟨rfl, rfl⟩ | ⟨-, hb⟩
    · exact ⟨_, rfl, xin_1 hq.1 hq.2⟩
    rcases rk_find_cons hb with ⟨rfl, rfl⟩ | ⟨-, hb⟩
    · exact ⟨_, rfl, xin_1 hz.1 hz.2⟩
    rcases rk_find_cons hb with ⟨rfl, rfl⟩ | ⟨-, hb⟩
    · exact ⟨_, rfl, xany_ok y⟩
    · cases hb
  · obtain ⟨al, hal, hall⟩ := hv.2.2
    cases List.mem_singleton.mp hal
    obtain ⟨x, rfl, -⟩ := x_fv (hall _ (List.mem_of_getElem? (i := 0) rfl))
    have q0 : 0 ≤ -1 * y.toInt + 1 * x.toInt := x_ans (rt := [q.toInt, z.toInt, y.toInt]) (hall _ (List.mem_of_getElem? (i := 0) rfl)) (xE2 rfl rfl rfl)
    have q1 : 0 ≤ 1 * y.toInt + -1 * x.toInt := x_ans (rt := [q.toInt, z.toInt, y.toInt]) (hall _ (List.mem_of_getElem? (i := 1) rfl)) (xE2 rfl rfl rfl)
    rw [show x = y from Int32.toInt_inj.mp (by omega)]
/-- keep of the reference -/
def kpM (h : rk_S) (r z : Int) (v : Option Value) (h' : rk_S) : Prop := ∃ x : Int32, v = some (.int x) ∧
  (((r < 0 ∨ rk_iv h 316 0 ≤ r) ∧ x.toInt = -1 ∧ h' = h) ∨
   (0 ≤ r ∧ r < rk_iv h 316 0 ∧ (∃ b, may (cdm h) 15 r.toNat b) ∧ x.toInt = -5 ∧ h' = h) ∨
   (0 ≤ r ∧ r < rk_iv h 316 0 ∧ (∀ b, ¬ may (cdm h) 15 r.toNat b) ∧ x.toInt = rk_iv h 319 r.toNat ∧ rk_iv h' 319 r.toNat = z ∧ ∀ b k, ¬ (b = 319 ∧ k = r.toNat) → ¬ (b = 316 ∧ k = 21) → ¬ (322 ≤ b ∧ b ≤ 333) → rk_get h' b k = rk_get h b k))
set_option maxRecDepth 100000 in
theorem ty_319p {h : rk_S} (hI : rk_Iv rk_Y h) {r : Nat} (hr : r < 10) {x : Int32} (hx : 0 ≤ x.toInt ∧ x.toInt ≤ 1) : rk_Iv rk_Y (rk_pt h 319 r (.int x)) := hI.put (k := r) (xty_Y (q := (10, 10, [.inl [(0, 1)]])) rfl) hr (rk_ok_one hx.1 hx.2)
theorem keepM_p {n d : Nat} {h : rk_S} {o : Option Value × rk_S} {q z : Int32} (hG : yG h) (hI : rk_Iv rk_Y h) (hC : lC3 h) (hz : 0 ≤ z.toInt ∧ z.toInt ≤ 1) (E : rk_ex n d rm_X8_keep 0 [(0, .ref 316), (1, .int q), (2, .int z)] [] h = some o) : kpM h q.toInt z.toInt o.1 o.2 := by
  obtain ⟨N, f1, f2, f3, f4⟩ := y_mfacts hI hC
  have A := yt_mk hG E
  rw [y_dec (N := N) (by rw [gi_iv, f1]) f2] at A
  rcases A with ⟨c1, -, rfl⟩ | ⟨c1, c2, -, rfl⟩ | ⟨c1, c2, m, -, -, E'⟩
  · exact ⟨_, rfl, Or.inl ⟨Or.inl c1, y_neg1, rfl⟩⟩
  · exact ⟨_, rfl, Or.inl ⟨Or.inr (by omega), y_neg1, rfl⟩⟩
  obtain ⟨m1, d1, o1, hm1, E1, E2⟩ := E_call (ar := ([.ref 316, .int q], [])) rfl rfl rfl rfl rfl rfl E'
  replace E1 : rk_ex m1 d1 rm_X8_actingOf 0 [(0, .ref 316), (1, .int q)] [] h = some o1 := E1
  have hqn : q.toInt = (q.toInt.toNat : Nat) := by omega
  have eq := y_ix hqn
  obtain ⟨u, rfl, hu⟩ := mac_ok (qn := q.toInt.toNat) hG f1 f2 f3 f4 (by omega) (by omega) E1
  replace E2 : rk_ex m1 d rm_X8_keep 15 [(0, .ref 316), (1, .int q), (2, .int z)] [.int u] h = some o := E2
  have hu0 : u.toInt = 0 ↔ ∀ b, ¬ may (cdm h) 15 q.toInt.toNat b := by
    rw [bt_none0]
    exact ⟨fun z b w => z b ((hu b).mpr w), fun z b w => z b ((hu b).mp w)⟩
  have hz1 : z &&& 1 = z := by
    rcases (show z = 0 ∨ z = 1 from x_bit (xin_1 hz.1 hz.2)) with rfl | rfl <;> decide
  have B := yt_mk1 hG E2
  rw [eq, gi_iv, hz1] at B
  have e01 := h01_of hI q.toInt.toNat (by omega)
  have sub : ∀ (m : Nat) (y : Int32), y.toInt = rk_iv h 319 q.toInt.toNat → u.toInt = 0 → yG (rk_pt h 319 q.toInt.toNat (.int z)) → rk_ex m d rm_X8_keep 43 [(3, .int y), (0, .ref 316), (1, .int q), (2, .int z)] [] (rk_pt h 319 q.toInt.toNat (.int z)) = some o → kpM h q.toInt z.toInt o.1 o.2 := by
    intro m y hy h0 hG1 E3
    obtain ⟨g1, g2, hy2⟩ := E_wp (kt_ok (y := y) (ty_319p hI (r := q.toInt.toNat) (by omega) hz) ⟨by omega, by omega⟩ hz) E3
    refine ⟨y, hy2, Or.inr (Or.inr ⟨by omega, by omega, hu0.mp h0, hy, ?_, fun b k z1 z2 z3 => ?_⟩)⟩
    · rw [rk_iv_eq (g2 319 q.toInt.toNat (fun w => by have := kt_cov w; omega)), ← gi_iv, hG.gi_put (by decide) (by decide) (by rw [yln_319.1]; omega)]
    · exact (g2 b k (fun w => by have := kt_cov w; omega)).trans (rk_get_ne (by omega))
  rcases B with ⟨c3, c4, m2, -, hG1, E3⟩ | ⟨c3, c4, m2, -, hG1, E3⟩ | ⟨c3, -, rfl⟩
  · exact sub m2 _ (by rw [c4]; rfl) c3 hG1 E3
  · exact sub m2 _ (by rcases e01 with e | e; exact absurd e c4; rw [e]; rfl) c3 hG1 E3
  · refine ⟨_, rfl, Or.inr (Or.inl ⟨by omega, by omega, Classical.byContradiction (fun w => c3 (hu0.mpr (fun b hb => w ⟨b, hb⟩))), rfl, rfl⟩)⟩
