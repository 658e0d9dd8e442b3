/-! codeAt, exactly: nothing is written; the answer is a place -/
def aPost (cn kn cl : Nat) (cc : Nat → Nat) (ci : Nat → Nat → Nat) (h : rk_S) (r c : Int) (v : Option Value) (h' : rk_S) : Prop := ∃ x : Int32, v = some (.int x) ∧ xfr xNo h h' ∧
  ((x.toInt = -1 ∧ (r < 0 ∨ rk_iv h cn kn ≤ r)) ∨ (x.toInt = -6 ∧ 0 ≤ r ∧ r < rk_iv h cn kn ∧ (c < 0 ∨ rk_iv h cl r.toNat ≤ c)) ∨
  (0 ≤ r ∧ r < rk_iv h cn kn ∧ 0 ≤ c ∧ c < rk_iv h cl r.toNat ∧ x.toInt = rk_iv h (cc r.toNat) (ci r.toNat c.toNat)))
def aS (r : Int) (vb : xB) (cn : Nat) (kt : xT) (cl cc : Nat) (ci : xT) : xW := (6, [(1, [(r, r)]), (2, [(0, 39)]), (3, [(0, 10)]), (4, [(0, 40)]), (5, vb)], [[(0, (-1)), (1, (-1)), (3, 1)], [(0, (-1)), (2, (-1)), (4, 1)]], [((cn, kt), [(3, 1)]), ((cl, [(1, 1)]), [(4, 1)]), ((cc, ci), [(5, 1)])])
def a_al : List (List xFc) := [[([none], [(5, (-1)), (6, 1)]), ([none], [(5, 1), (6, (-1))])]]
def a_run (m : Nat) (ct : List (Nat × xCt)) (e a : Nat) (S : xW) : Bool := xenA 5 a_al (xrun [] ct [] 900 e [] none m 0 (xlvs 0 (xini 1 [.inr [a], x_any, x_any]).1) [] S)
theorem a_main {m e a cn kn cl D : Nat} {kt : xT} {M : rk_M} {cc : Nat → Nat} {ci : Nat → Nat → Nat} {cit : Nat → xT} {vb : xB} {vn : Nat} {ct : List (Nat × xCt)} {h : rk_S}
    (ra : c_run m ct [] e a [] (c_an (-1)) (cS [(-2147483648, -1)] xany [(0, 40)] [] (c_kn cn kt)) = true)
    (rb : c_run m ct [] e a [] (c_an (-1)) (cS [(0, 2147483647)] xany [(0, 40)] [[(1, 1), (3, (-1))]] (c_kn cn kt)) = true)
    (rc : c_run m ct [] e a [] (c_an (-6)) (cS [(0, 9)] [(-2147483648, -1)] [(0, 40)] c_in (c_kl cn kt cl)) = true)
    (rd : c_run m ct [] e a [] (c_an (-6)) (cS [(0, 9)] [(0, 2147483647)] [(0, 40)] ([(2, 1), (4, (-1))] :: c_in) (c_kl cn kt cl)) = true)
    (re : ∀ r : Nat, r < 10 → a_run m ct e a (aS (r : Int) vb cn kt cl (cc r) (cit r)) = true)
    (hct : ∀ q c, rk_find ct q = some c → xCon q c) (hM : rk_m m = some M) (hD : e ≤ D) (hkt : ∀ l, xE (1 :: l) kt = some (kn : Int)) (hci : ∀ (r i : Nat) (l : List Int), xE (1 :: (r : Int) :: (i : Int) :: l) (cit r) = some ((ci r i : Nat) : Int)) (tyn : x_fok cn kn [(0, 10)] = true) (tyl : x_aok cl 10 [(0, 40)] = true) (tyc : ∀ r : Nat, r < 10 → x_aok (cc r) vn vb = true) (hvn : ∀ r i : Nat, r < 10 → i < 40 → ci r i < vn) (hI : rk_Iv rk_Y h) (r c : Int32) :
    rk_wp D M 0 (lv_args 0 [.ref a, .int r, .int c]) [] h (fun v h' => rk_Iv rk_Y h' ∧ aPost cn kn cl cc ci h r.toInt c.toInt v h') := by
  obtain ⟨xn, n1, n2, n3⟩ := x_fok_ok hI tyn
  rw [← n3] at n2
  have n4 := x_one1 n2
  have ha : xArg [.inr [a], x_any, x_any] [.ref a, .int r, .int c] := ⟨List.mem_cons_self, xany_ok r, xany_ok c, trivial⟩
  have hk0 : ∀ l, xkn [1, r.toInt, c.toInt, rk_iv h cn kn, l] (c_kn cn kt) h := by
    intro l p hp
    cases List.mem_singleton.mp hp
    exact ⟨kn, xn, hkt _, n1, xE1 rfl (by rw [n3]; omega)⟩
  have hr1 := Int32.le_toInt r
  have hr2 := Int32.toInt_lt r
  have hc1 := Int32.le_toInt c
  have hc2 := Int32.toInt_lt c
  by_cases h0 : r.toInt < 0
  · refine wp_weak (xexb_ok (P := xNo) (zs := [rk_iv h cn kn, 0]) ra hct hM hD ha xNo_W ⟨cS_F (xin_1 (by omega) (by omega)) (xany_ok c) n2 (xin_1 (by omega) (by omega)) (fun t ht => absurd ht List.not_mem_nil), hk0 0, hI, fun _ _ _ => rfl⟩ rfl) (fun v h' hv => ?_)
    obtain ⟨x, rfl, e1⟩ := c_an_ok hv.2.2
    exact ⟨hv.1, x, rfl, hv.2.1, Or.inl ⟨e1, Or.inl h0⟩⟩
  by_cases hn : rk_iv h cn kn ≤ r.toInt
  · refine wp_weak (xexb_ok (P := xNo) (zs := [rk_iv h cn kn, 0]) rb hct hM hD ha xNo_W ⟨cS_F (xin_1 (by omega) (by omega)) (xany_ok c) n2 (xin_1 (by omega) (by omega)) (fun t ht => ?_), hk0 0, hI, fun _ _ _ => rfl⟩ rfl) (fun v h' hv => ?_)
    · cases List.mem_singleton.mp ht
      exact ⟨_, xE2 rfl rfl rfl, by show 0 ≤ 1 * r.toInt + -1 * rk_iv h cn kn; omega⟩
    · obtain ⟨x, rfl, e1⟩ := c_an_ok hv.2.2
      exact ⟨hv.1, x, rfl, hv.2.1, Or.inl ⟨e1, Or.inr hn⟩⟩
  obtain ⟨xl, l1, l2, l3⟩ := x_aok_ok hI tyl (k := r.toInt.toNat) (by omega)
  rw [← l3] at l2
  have l4 := x_one1 l2
  have hkl : xkn [1, r.toInt, c.toInt, rk_iv h cn kn, rk_iv h cl r.toInt.toNat] (c_kl cn kt cl) h := by
    intro p hp
    simp only [c_kl, List.mem_cons, List.not_mem_nil, or_false] at hp
    rcases hp with rfl | rfl
    · exact ⟨kn, xn, hkt _, n1, xE1 rfl (by rw [n3]; omega)⟩
    · exact ⟨r.toInt.toNat, xl, xE1 rfl (by omega), l1, xE1 rfl (by rw [l3]; omega)⟩
  have hcx : xcs [1, r.toInt, c.toInt, rk_iv h cn kn, rk_iv h cl r.toInt.toNat] c_in := by
    intro t ht
    cases List.mem_singleton.mp ht
    exact ⟨_, xE3 rfl rfl rfl rfl, by show 0 ≤ -1 * 1 + (-1 * r.toInt + 1 * rk_iv h cn kn); omega⟩
  by_cases hi : c.toInt < 0
  · refine wp_weak (xexb_ok (P := xNo) (zs := [rk_iv h cn kn, rk_iv h cl r.toInt.toNat]) rc hct hM hD ha xNo_W ⟨cS_F (xin_1 (by omega) (by omega)) (xin_1 (by omega) (by omega)) n2 l2 hcx, hkl, hI, fun _ _ _ => rfl⟩ rfl) (fun v h' hw => ?_)
    obtain ⟨x, rfl, e1⟩ := c_an_ok hw.2.2
    exact ⟨hw.1, x, rfl, hw.2.1, Or.inr (Or.inl ⟨e1, by omega, by omega, Or.inl hi⟩)⟩
  by_cases hl : rk_iv h cl r.toInt.toNat ≤ c.toInt
  · refine wp_weak (xexb_ok (P := xNo) (zs := [rk_iv h cn kn, rk_iv h cl r.toInt.toNat]) rd hct hM hD ha xNo_W ⟨cS_F (xin_1 (by omega) (by omega)) (xin_1 (by omega) (by omega)) n2 l2 (fun t ht => ?_), hkl, hI, fun _ _ _ => rfl⟩ rfl) (fun v h' hw => ?_)
    · cases ht with
      | head => exact ⟨_, xE2 rfl rfl rfl, by show 0 ≤ 1 * c.toInt + -1 * rk_iv h cl r.toInt.toNat; omega⟩
      | tail _ ht => exact hcx t ht
    · obtain ⟨x, rfl, e1⟩ := c_an_ok hw.2.2
      exact ⟨hw.1, x, rfl, hw.2.1, Or.inr (Or.inl ⟨e1, by omega, by omega, Or.inr hl⟩)⟩
  have hr10 : r.toInt.toNat < 10 := by omega
  have hc40 : c.toInt.toNat < 40 := by omega
  obtain ⟨xv, v1, v2, v3⟩ := x_aok_ok hI (tyc r.toInt.toNat hr10) (k := ci r.toInt.toNat c.toInt.toNat) (hvn _ _ hr10 hc40)
  rw [← v3] at v2
  have hr : ((r.toInt.toNat : Nat) : Int) = r.toInt := by omega
  have hcc : ((c.toInt.toNat : Nat) : Int) = c.toInt := by omega
  have hcj := hci r.toInt.toNat c.toInt.toNat [rk_iv h cn kn, rk_iv h cl r.toInt.toNat, rk_iv h (cc r.toInt.toNat) (ci r.toInt.toNat c.toInt.toNat)]
  rw [hr, hcc] at hcj
  have hre := re r.toInt.toNat hr10
  refine wp_weak (xexb_ok (P := xNo) (zs := [rk_iv h cn kn, rk_iv h cl r.toInt.toNat, rk_iv h (cc r.toInt.toNat) (ci r.toInt.toNat c.toInt.toNat)]) hre hct hM hD ha xNo_W ⟨⟨rfl, ⟨rfl, fun i b hb => ?_⟩, fun t ht => ?_⟩, fun p hp => ?_, hI, fun _ _ _ => rfl⟩ rfl) (fun v h' hw => ?_)
  · rcases rk_find_cons hb with ⟨rfl, rfl⟩ | ⟨-, hb⟩
    · exact ⟨_, rfl, xin_1 (by omega) (by omega)⟩
    rcases rk_find_cons hb with ⟨rfl, rfl⟩ | ⟨-, hb⟩
    · exact ⟨_, rfl, xin_1 (by omega) (by omega)⟩
    rcases rk_find_cons hb with ⟨rfl, rfl⟩ | ⟨-, hb⟩
    · exact ⟨_, rfl, n2⟩
    rcases rk_find_cons hb with ⟨rfl, rfl⟩ | ⟨-, hb⟩
    · exact ⟨_, rfl, l2⟩
    rcases rk_find_cons hb with ⟨rfl, rfl⟩ | ⟨-, hb⟩
    · exact ⟨_, rfl, v2⟩
    · cases hb
  · simp only [aS, List.mem_cons, List.not_mem_nil, or_false] at ht
    rcases ht with rfl | rfl
    · exact ⟨_, xE3 rfl rfl rfl rfl, by show 0 ≤ -1 * 1 + (-1 * r.toInt + 1 * rk_iv h cn kn); omega⟩
    · exact ⟨_, xE3 rfl rfl rfl rfl, by show 0 ≤ -1 * 1 + (-1 * c.toInt + 1 * rk_iv h cl r.toInt.toNat); omega⟩
  · simp only [aS, List.mem_cons, List.not_mem_nil, or_false] at hp
    rcases hp with rfl | rfl | rfl
    · exact ⟨kn, xn, hkt _, n1, xE1 rfl (by rw [n3]; omega)⟩
    · exact ⟨r.toInt.toNat, xl, xE1 rfl (by omega), l1, xE1 rfl (by rw [l3]; omega)⟩
    · exact ⟨ci r.toInt.toNat c.toInt.toNat, xv, hcj, v1, xE1 rfl (by rw [v3]; omega)⟩
  · obtain ⟨hI', hf, al, hal, hall⟩ := hw
    cases List.mem_singleton.mp hal
    obtain ⟨x, rfl, -⟩ := x_fv (hall _ (List.mem_of_getElem? (i := 0) rfl))
    have q0 : 0 ≤ -1 * rk_iv h (cc r.toInt.toNat) (ci r.toInt.toNat c.toInt.toNat) + 1 * x.toInt := x_ans (hall _ (List.mem_of_getElem? (i := 0) rfl)) (xE2 rfl rfl rfl)
    have q1 : 0 ≤ 1 * rk_iv h (cc r.toInt.toNat) (ci r.toInt.toNat c.toInt.toNat) + -1 * x.toInt := x_ans (hall _ (List.mem_of_getElem? (i := 1) rfl)) (xE2 rfl rfl rfl)
    exact ⟨hI', x, rfl, hf, Or.inr (Or.inr ⟨by omega, by omega, by omega, by omega, by omega⟩)⟩
