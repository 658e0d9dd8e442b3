/-! exact runs with places and limits that hang on the arguments -/
theorem xexb_ok {P : Nat → Nat → Prop} {W : xC} {ct : List (Nat × xCt)} {ls : xLs} {f e m k : Nat} {ts : List rk_ST} {al : List (List xFc)} {M : rk_M} {D : Nat} {av : List Value} {zs : List Int} {S : xW} {h : rk_S} (hs : xenA k al (xrun W ct ls f e [] none m 0 (xlvs 0 (xini 1 ts).1) [] S) = true) (hct : ∀ q c, rk_find ct q = some c → xCon q c) (hM : rk_m m = some M) (hD : e ≤ D) (ha : xArg ts av) (hW : xWP P (1 :: (xiv av ++ zs)) W) (hS : xS P h (1 :: (xiv av ++ zs)) S h) (hk : (xiv av ++ zs).length = k) : rk_wp D M 0 (lv_args 0 av) [] h (fun v h' => rk_Iv rk_Y h' ∧ xfr P h h' ∧ xHA (xiv av ++ zs) h' v al) := by
  obtain ⟨a1, a2, a3⟩ := xini_ok2 (r := [1]) (n := 1) rfl ha
  have hp : 1 :: xiv av <+: 1 :: (xiv av ++ zs) := ⟨zs, rfl⟩
  exact xrunA_ok (P := P) (h0 := h) (rt := xiv av ++ zs) hct hs hM hD hW ⟨xlvs_ok (xsk_mono hp a2) 0, trivial, hS⟩ hk
/-- nothing may be written -/
def xNo : Nat → Nat → Prop := fun _ _ => False
theorem xNo_W {r : List Int} : xWP xNo r [] := fun w hw => absurd hw List.not_mem_nil
/-- a routine's number, a code or a place, the count, the length: the count at (cc, ck), the length at (cl, r) -/
def cS (rb cb lb : xB) (cx : List xT) (kn : xK) : xW := (5, [(1, rb), (2, cb), (3, [(0, 10)]), (4, lb)], cx, kn)
def c_kn (cc : Nat) (ck : xT) : xK := [((cc, ck), [(3, 1)])]
def c_kl (cc : Nat) (ck : xT) (cl : Nat) : xK := [((cc, ck), [(3, 1)]), ((cl, [(1, 1)]), [(4, 1)])]
theorem cS_F {r c n l : Int} {rb cb lb : xB} {cx : List xT} {kn : xK} (h1 : xinB r rb) (h2 : xinB c cb) (h3 : xinB n [(0, 10)]) (h4 : xinB l lb) (hc : xcs [1, r, c, n, l] cx) : xF [1, r, c, n, l] (cS rb cb lb cx kn) := by
  refine ⟨rfl, ⟨rfl, fun i b hb => ?_⟩, hc⟩
  rcases rk_find_cons hb with ⟨rfl, rfl⟩ | ⟨-, hb⟩
  · exact ⟨_, rfl, h1⟩
  rcases rk_find_cons hb with ⟨rfl, rfl⟩ | ⟨-, hb⟩
  · exact ⟨_, rfl, h2⟩
  rcases rk_find_cons hb with ⟨rfl, rfl⟩ | ⟨-, hb⟩
  · exact ⟨_, rfl, h3⟩
  rcases rk_find_cons hb with ⟨rfl, rfl⟩ | ⟨-, hb⟩
  · exact ⟨_, rfl, h4⟩
  · cases hb
/-- an answer that is known: one alternative, two facts -/
def c_an (z : Int) : List (List xFc) := [[([none], [(0, -z), (5, 1)]), ([none], [(0, z), (5, (-1))])]]
theorem c_an_ok {r c n l z : Int} {h' : rk_S} {v : Option Value} (hH : xHA [r, c, n, l] h' v (c_an z)) : ∃ x : Int32, v = some (.int x) ∧ x.toInt = z := by
  obtain ⟨al, hal, hall⟩ := hH
  cases List.mem_singleton.mp hal
  obtain ⟨x, rfl, -⟩ := x_fv (hall _ (List.mem_of_getElem? (i := 0) rfl))
  have q0 : 0 ≤ -z * 1 + 1 * x.toInt := x_ans (hall _ (List.mem_of_getElem? (i := 0) rfl)) (xE2 rfl rfl rfl)
  have q1 : 0 ≤ z * 1 + -1 * x.toInt := x_ans (hall _ (List.mem_of_getElem? (i := 1) rfl)) (xE2 rfl rfl rfl)
  exact ⟨x, rfl, by omega⟩
/-- the places behind a code that was taken: the length, the code -/
def c_tk (cl cc : Nat) (ci : xT) : List (List xFc) := [[([some (cl, [(1, 1)])], [(0, (-1)), (4, (-1)), (5, 1)]), ([some (cl, [(1, 1)])], [(0, 1), (4, 1), (5, (-1))]), ([some (cc, ci)], [(2, (-1)), (5, 1)]), ([some (cc, ci)], [(2, 1), (5, (-1))]), ([none], [(0, (-1)), (4, (-1)), (5, 1)]), ([none], [(0, 1), (4, 1), (5, (-1))])]]
theorem c_tk_ok {r c n l : Int} {cl cc j i : Nat} {ci : xT} {h' : rk_S} {v : Option Value} (hj : (j : Int) = r) (hi : xE [1, r, c, n, l] ci = some (i : Int)) (hH : xHA [r, c, n, l] h' v (c_tk cl cc ci)) : ∃ x : Int32, v = some (.int x) ∧ x.toInt = l + 1 ∧ rk_iv h' cl j = l + 1 ∧ rk_iv h' cc i = c := by
  obtain ⟨al, hal, hall⟩ := hH
  cases List.mem_singleton.mp hal
  obtain ⟨x, rfl, -⟩ := x_fv (hall _ (List.mem_of_getElem? (i := 4) rfl))
  have hr : xE [1, r, c, n, l] [(1, 1)] = some ((j : Nat) : Int) := xE1 rfl (by omega)
  have q0 : 0 ≤ -1 * 1 + (-1 * l + 1 * rk_iv h' cl j) := x_f1 (rt := [r, c, n, l]) (hall _ (List.mem_of_getElem? (i := 0) rfl)) hr (xE3 rfl rfl rfl rfl)
  have q1 : 0 ≤ 1 * 1 + (1 * l + -1 * rk_iv h' cl j) := x_f1 (rt := [r, c, n, l]) (hall _ (List.mem_of_getElem? (i := 1) rfl)) hr (xE3 rfl rfl rfl rfl)
  have q2 : 0 ≤ -1 * c + 1 * rk_iv h' cc i := x_f1 (rt := [r, c, n, l]) (hall _ (List.mem_of_getElem? (i := 2) rfl)) hi (xE2 rfl rfl rfl)
  have q3 : 0 ≤ 1 * c + -1 * rk_iv h' cc i := x_f1 (rt := [r, c, n, l]) (hall _ (List.mem_of_getElem? (i := 3) rfl)) hi (xE2 rfl rfl rfl)
  have q4 : 0 ≤ -1 * 1 + (-1 * l + 1 * x.toInt) := x_ans (rt := [r, c, n, l]) (hall _ (List.mem_of_getElem? (i := 4) rfl)) (xE3 rfl rfl rfl rfl)
  have q5 : 0 ≤ 1 * 1 + (1 * l + -1 * x.toInt) := x_ans (rt := [r, c, n, l]) (hall _ (List.mem_of_getElem? (i := 5) rfl)) (xE3 rfl rfl rfl rfl)
  exact ⟨x, rfl, by omega, by omega, by omega⟩
/-- what code may leave, alike on both sides (the count at (cn, kn), the length at (cl, r), the code at (cc r, ci r l)) -/
def cV (c : Int) : Prop := (0 ≤ c ∧ c ≤ 102) ∨ (200 ≤ c ∧ c ≤ 215) ∨ (300 ≤ c ∧ c ≤ 315) ∨ (400 ≤ c ∧ c ≤ 409) ∨ (500 ≤ c ∧ c ≤ 508) ∨ (601 ≤ c ∧ c ≤ 620)
theorem cV_or {c : Int} (h : cV c) : ∃ b ∈ [((0 : Int), (99 : Int)), (100, 102), (200, 215), (300, 315), (400, 409), (500, 508), (601, 620)], xinB c [b] := by
  unfold cV at h
  by_cases e : c ≤ 99
  · exact ⟨_, List.mem_of_getElem? (i := 0) rfl, xin_1 (by omega) e⟩
  rcases h with h | h | h | h | h | h
  · exact ⟨_, List.mem_of_getElem? (i := 1) rfl, xin_1 (by omega) h.2⟩
  · exact ⟨_, List.mem_of_getElem? (i := 2) rfl, xin_1 h.1 h.2⟩
  · exact ⟨_, List.mem_of_getElem? (i := 3) rfl, xin_1 h.1 h.2⟩
  · exact ⟨_, List.mem_of_getElem? (i := 4) rfl, xin_1 h.1 h.2⟩
  · exact ⟨_, List.mem_of_getElem? (i := 5) rfl, xin_1 h.1 h.2⟩
  · exact ⟨_, List.mem_of_getElem? (i := 6) rfl, xin_1 h.1 h.2⟩
theorem cV_no {c : Int} (h : ¬ cV c) (h1 : -2147483648 ≤ c) (h2 : c ≤ 2147483647) : ∃ b ∈ [((-2147483648 : Int), (-1 : Int)), (103, 199), (216, 299), (316, 399), (410, 499), (509, 599), (600, 600), (621, 2147483647)], xinB c [b] := by
  unfold cV at h
  by_cases e0 : c ≤ -1
  · exact ⟨_, List.mem_of_getElem? (i := 0) rfl, xin_1 h1 e0⟩
  by_cases e1 : c ≤ 199
  · exact ⟨_, List.mem_of_getElem? (i := 1) rfl, xin_1 (by omega) e1⟩
  by_cases e2 : c ≤ 299
  · exact ⟨_, List.mem_of_getElem? (i := 2) rfl, xin_1 (by omega) e2⟩
  by_cases e3 : c ≤ 399
  · exact ⟨_, List.mem_of_getElem? (i := 3) rfl, xin_1 (by omega) e3⟩
  by_cases e4 : c ≤ 499
  · exact ⟨_, List.mem_of_getElem? (i := 4) rfl, xin_1 (by omega) e4⟩
  by_cases e5 : c ≤ 599
  · exact ⟨_, List.mem_of_getElem? (i := 5) rfl, xin_1 (by omega) e5⟩
  by_cases e6 : c ≤ 600
  · exact ⟨_, List.mem_of_getElem? (i := 6) rfl, xin_1 (by omega) e6⟩
  · exact ⟨_, List.mem_of_getElem? (i := 7) rfl, xin_1 (by omega) h2⟩
def c_run (m : Nat) (ct : List (Nat × xCt)) (ls : xLs) (e a : Nat) (W : xC) (al : List (List xFc)) (S : xW) : Bool := xenA 4 al (xrun W ct ls 900 e [] none m 0 (xlvs 0 (xini 1 [.inr [a], x_any, x_any]).1) [] S)
def c_in : List xT := [[(0, (-1)), (1, (-1)), (3, 1)]]
def cPost (cn kn cl : Nat) (cc : Nat → Nat) (ci : Nat → Nat → Nat) (P : Nat → Nat → Nat → Nat → Prop) (h : rk_S) (r c : Int) (v : Option Value) (h' : rk_S) : Prop := ∃ x : Int32, v = some (.int x) ∧
  ((x.toInt = -1 ∧ (r < 0 ∨ rk_iv h cn kn ≤ r) ∧ xfr xNo h h') ∨
  (x.toInt = -2 ∧ 0 ≤ r ∧ r < rk_iv h cn kn ∧ ¬ cV c ∧ xfr xNo h h') ∨
  (x.toInt = -4 ∧ 0 ≤ r ∧ r < rk_iv h cn kn ∧ cV c ∧ 40 ≤ rk_iv h cl r.toNat ∧ xfr xNo h h') ∨
  (0 ≤ r ∧ r < rk_iv h cn kn ∧ cV c ∧ rk_iv h cl r.toNat ≤ 39 ∧ x.toInt = rk_iv h cl r.toNat + 1 ∧ rk_iv h' cl r.toNat = rk_iv h cl r.toNat + 1 ∧ rk_iv h' (cc r.toNat) (ci r.toNat (rk_iv h cl r.toNat).toNat) = c ∧ xfr (P r.toNat (rk_iv h cl r.toNat).toNat) h h'))
theorem c_main {m e a cn kn cl D : Nat} {kt : xT} {M : rk_M} {cc : Nat → Nat} {ci : Nat → Nat → Nat} {cit : Nat → xT} {PP : Nat → Nat → Nat → Nat → Prop} {ct : List (Nat × xCt)} {ls : xLs} {W : Nat → xC} {h : rk_S}
    (ra : c_run m ct ls e a [] (c_an (-1)) (cS [(-2147483648, -1)] xany [(0, 40)] [] (c_kn cn kt)) = true)
    (rb : c_run m ct ls e a [] (c_an (-1)) (cS [(0, 2147483647)] xany [(0, 40)] [[(1, 1), (3, (-1))]] (c_kn cn kt)) = true)
    (rg : ∀ b ∈ [((-2147483648 : Int), (-1 : Int)), (103, 199), (216, 299), (316, 399), (410, 499), (509, 599), (600, 600), (621, 2147483647)], c_run m ct ls e a [] (c_an (-2)) (cS [(0, 9)] [b] [(0, 40)] c_in (c_kl cn kt cl)) = true)
    (rf : ∀ b ∈ [((0 : Int), (99 : Int)), (100, 102), (200, 215), (300, 315), (400, 409), (500, 508), (601, 620)], c_run m ct ls e a [] (c_an (-4)) (cS [(0, 9)] [b] [(40, 40)] c_in (c_kl cn kt cl)) = true)
    (rt : ∀ r : Nat, r < 10 → ∀ b ∈ [((0 : Int), (99 : Int)), (100, 102), (200, 215), (300, 315), (400, 409), (500, 508), (601, 620)], c_run m ct ls e a (W r) (c_tk cl (cc r) (cit r)) (cS [((r : Int), (r : Int))] [b] [(0, 39)] c_in (c_kl cn kt cl)) = true)
    (hct : ∀ q c, rk_find ct q = some c → xCon q c) (hM : rk_m m = some M) (hD : e ≤ D) (hkt : ∀ r c n l, xE [1, r, c, n, l] kt = some (kn : Int)) (hci : ∀ (r l : Nat) (c n : Int), xE [1, (r : Int), c, n, (l : Int)] (cit r) = some ((ci r l : Nat) : Int)) (hWP : ∀ (r l : Nat) (c n : Int), xWP (PP r l) [1, (r : Int), c, n, (l : Int)] (W r)) (tyn : x_fok cn kn [(0, 10)] = true) (tyl : x_aok cl 10 [(0, 40)] = true) (hI : rk_Iv rk_Y h) (r c : Int32) :
    rk_wp D M 0 (lv_args 0 [.ref a, .int r, .int c]) [] h (fun v h' => rk_Iv rk_Y h' ∧ cPost cn kn cl cc ci PP h r.toInt c.toInt v h') := by
  obtain ⟨xn, n1, n2, n3⟩ := x_fok_ok hI tyn
  rw [← n3] at n2
  have n4 := x_one1 n2
  have ha : xArg [.inr [a], x_any, x_any] [.ref a, .int r, .int c] := ⟨List.mem_cons_self, xany_ok r, xany_ok c, trivial⟩
  have hk0 : ∀ l, xkn [1, r.toInt, c.toInt, rk_iv h cn kn, l] (c_kn cn kt) h := by
    intro l p hp
    cases List.mem_singleton.mp hp
    exact ⟨kn, xn, hkt _ _ _ _, n1, xE1 rfl (by rw [n3]; omega)⟩
  have hr1 := Int32.le_toInt r
  have hr2 := Int32.toInt_lt r
  have hc1 := Int32.le_toInt c
  have hc2 := Int32.toInt_lt c
  by_cases h0 : r.toInt < 0
  · refine wp_weak (xexb_ok (P := xNo) (zs := [rk_iv h cn kn, 0]) ra hct hM hD ha xNo_W ⟨cS_F (xin_1 (by omega) (by omega)) (xany_ok c) n2 (xin_1 (by omega) (by omega)) (fun t ht => absurd ht List.not_mem_nil), hk0 0, hI, fun _ _ _ => rfl⟩ rfl) (fun v h' hv => ?_)
    obtain ⟨x, rfl, e1⟩ := c_an_ok hv.2.2
    exact ⟨hv.1, x, rfl, Or.inl ⟨e1, Or.inl h0, hv.2.1⟩⟩
  by_cases hn : rk_iv h cn kn ≤ r.toInt
  · refine wp_weak (xexb_ok (P := xNo) (zs := [rk_iv h cn kn, 0]) rb hct hM hD ha xNo_W ⟨cS_F (xin_1 (by omega) (by omega)) (xany_ok c) n2 (xin_1 (by omega) (by omega)) (fun t ht => ?_), hk0 0, hI, fun _ _ _ => rfl⟩ rfl) (fun v h' hv => ?_)
    · cases List.mem_singleton.mp ht
      exact ⟨_, xE2 rfl rfl rfl, by show 0 ≤ 1 * r.toInt + -1 * rk_iv h cn kn; omega⟩
    · obtain ⟨x, rfl, e1⟩ := c_an_ok hv.2.2
      exact ⟨hv.1, x, rfl, Or.inl ⟨e1, Or.inr hn, hv.2.1⟩⟩
  obtain ⟨xl, l1, l2, l3⟩ := x_aok_ok hI tyl (k := r.toInt.toNat) (by omega)
  rw [← l3] at l2
  have l4 := x_one1 l2
  have hkl : xkn [1, r.toInt, c.toInt, rk_iv h cn kn, rk_iv h cl r.toInt.toNat] (c_kl cn kt cl) h := by
    intro p hp
    simp only [c_kl, List.mem_cons, List.not_mem_nil, or_false] at hp
    rcases hp with rfl | rfl
    · exact ⟨kn, xn, hkt _ _ _ _, n1, xE1 rfl (by rw [n3]; omega)⟩
    · exact ⟨r.toInt.toNat, xl, xE1 rfl (by omega), l1, xE1 rfl (by rw [l3]; omega)⟩
  have hcx : xcs [1, r.toInt, c.toInt, rk_iv h cn kn, rk_iv h cl r.toInt.toNat] c_in := by
    intro t ht
    cases List.mem_singleton.mp ht
    exact ⟨_, xE3 rfl rfl rfl rfl, by show 0 ≤ -1 * 1 + (-1 * r.toInt + 1 * rk_iv h cn kn); omega⟩
  by_cases hv : cV c.toInt
  · obtain ⟨b, hb, hbi⟩ := cV_or hv
    by_cases hl : rk_iv h cl r.toInt.toNat ≤ 39
    · have hr : ((r.toInt.toNat : Nat) : Int) = r.toInt := by omega
      have hll : (((rk_iv h cl r.toInt.toNat).toNat : Nat) : Int) = rk_iv h cl r.toInt.toNat := by omega
      have hwp := hWP r.toInt.toNat (rk_iv h cl r.toInt.toNat).toNat c.toInt (rk_iv h cn kn)
      have hcj := hci r.toInt.toNat (rk_iv h cl r.toInt.toNat).toNat c.toInt (rk_iv h cn kn)
      rw [hr, hll] at hwp hcj
      refine wp_weak (xexb_ok (P := PP r.toInt.toNat (rk_iv h cl r.toInt.toNat).toNat) (zs := [rk_iv h cn kn, rk_iv h cl r.toInt.toNat]) (rt r.toInt.toNat (by omega) b hb) hct hM hD ha hwp ⟨cS_F (xin_1 (by omega) (by omega)) hbi n2 (xin_1 l4.1 hl) hcx, hkl, hI, fun _ _ _ => rfl⟩ rfl) (fun v h' hw => ?_)
      obtain ⟨x, rfl, e1, e2, e3⟩ := c_tk_ok hr hcj hw.2.2
      exact ⟨hw.1, x, rfl, Or.inr (Or.inr (Or.inr ⟨by omega, by omega, hv, hl, e1, e2, e3, hw.2.1⟩))⟩
    · refine wp_weak (xexb_ok (P := xNo) (zs := [rk_iv h cn kn, rk_iv h cl r.toInt.toNat]) (rf b hb) hct hM hD ha xNo_W ⟨cS_F (xin_1 (by omega) (by omega)) hbi n2 (xin_1 (by omega) (by omega)) hcx, hkl, hI, fun _ _ _ => rfl⟩ rfl) (fun v h' hw => ?_)
      obtain ⟨x, rfl, e1⟩ := c_an_ok hw.2.2
      exact ⟨hw.1, x, rfl, Or.inr (Or.inr (Or.inl ⟨e1, by omega, by omega, hv, by omega, hw.2.1⟩))⟩
  · obtain ⟨b, hb, hbi⟩ := cV_no hv (by omega) (by omega)
    refine wp_weak (xexb_ok (P := xNo) (zs := [rk_iv h cn kn, rk_iv h cl r.toInt.toNat]) (rg b hb) hct hM hD ha xNo_W ⟨cS_F (xin_1 (by omega) (by omega)) hbi n2 l2 hcx, hkl, hI, fun _ _ _ => rfl⟩ rfl) (fun v h' hw => ?_)
    obtain ⟨x, rfl, e1⟩ := c_an_ok hw.2.2
    exact ⟨hw.1, x, rfl, Or.inr (Or.inl ⟨e1, by omega, by omega, hv, hw.2.1⟩)⟩
