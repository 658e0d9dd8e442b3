/-! acting and reads, both sides alike -/
theorem y_meth {m D : Nat} {c : xCt} {M : rk_M} {av : List Value} {h : rk_S} {R : Option Value → rk_S → Prop} (hk : xCon m c) (hM : rk_m m = some M) (hD : c.1 ≤ D) (hI : rk_Iv rk_Y h) (hw0 : ∀ k, ¬ xCov c.2.2.1 0 k) (ha : xArg c.2.1 av) (hp : ∀ n o, rk_ex n D M 0 (lv_args 0 av) [] h = some o → R o.1 o.2) : rk_wp D M 0 (lv_args 0 av) [] h (fun v h' => rk_Iv rk_Y h' ∧ (∀ k, rk_get h' 0 k = rk_get h 0 k) ∧ R v h') := by
  obtain ⟨M2, e1, e2⟩ := hk
  cases hM.symm.trans e1
  exact wp_weak (wp_and (e2 D av h hD hI ha) hp) (fun v h' hv => ⟨hv.1.1, fun k => hv.1.2.1 0 k (hw0 k), hv.2⟩)
theorem cds_cdm {h : rk_S} (hC : lC3 h) {r : Nat} (hr : r < 10) (c : Int) : cds h r c ↔ cdm h r c := by
  unfold cds cdm
  rw [← hC.2.1 r hr]
  constructor
  · rintro ⟨i, h1, h2⟩
    exact ⟨i, h1, by rw [← hC.2.2.2 r i hr h1]; exact h2⟩
  · rintro ⟨i, h1, h2⟩
    exact ⟨i, h1, by rw [hC.2.2.2 r i hr h1]; exact h2⟩
def aaX (cl : Nat) (h : rk_S) (r : Int) (v : Option Value) (h' : rk_S) : Prop := h' = h ∧ ∃ x : Int32, v = some (.int x) ∧ (((r < 0 ∨ rk_iv h 2 5 ≤ r) ∧ x.toInt = -1) ∨ (0 ≤ r ∧ r < rk_iv h 2 5 ∧ x = gi h cl r.toNat))
def aaM (cl : Nat) (h : rk_S) (r : Int) (v : Option Value) (h' : rk_S) : Prop := h' = h ∧ ∃ x : Int32, v = some (.int x) ∧ (((r < 0 ∨ rk_iv h 316 0 ≤ r) ∧ x.toInt = -1) ∨ (0 ≤ r ∧ r < rk_iv h 316 0 ∧ ∀ b, bt x b = true ↔ may (cdm h) cl r.toNat b))
theorem y_neg1 : ((-1) : Int32).toInt = -1 := rfl
theorem actX_p {n d : Nat} {h : rk_S} {o : Option Value × rk_S} {r : Int32} (hG : yG h) (E : rk_ex n d rm_X7_acting 0 [(0, .ref 1), (1, .int r)] [] h = some o) : aaX 15 h r.toInt o.1 o.2 := by
  have A := yt_act hG E
  rw [gi_iv] at A
  rcases A with ⟨c1, -, rfl⟩ | ⟨c1, c2, -, rfl⟩ | ⟨c1, c2, -, rfl⟩
  · exact ⟨rfl, _, rfl, Or.inl ⟨Or.inl c1, y_neg1⟩⟩
  · exact ⟨rfl, _, rfl, Or.inl ⟨Or.inr c2, y_neg1⟩⟩
  · exact ⟨rfl, _, rfl, Or.inr ⟨by omega, by omega, rfl⟩⟩
theorem reaX_p {n d : Nat} {h : rk_S} {o : Option Value × rk_S} {r : Int32} (hG : yG h) (E : rk_ex n d rm_X7_reads 0 [(0, .ref 1), (1, .int r)] [] h = some o) : aaX 16 h r.toInt o.1 o.2 := by
  have A := yt_rea hG E
  rw [gi_iv] at A
  rcases A with ⟨c1, -, rfl⟩ | ⟨c1, c2, -, rfl⟩ | ⟨c1, c2, -, rfl⟩
  · exact ⟨rfl, _, rfl, Or.inl ⟨Or.inl c1, y_neg1⟩⟩
  · exact ⟨rfl, _, rfl, Or.inl ⟨Or.inr c2, y_neg1⟩⟩
  · exact ⟨rfl, _, rfl, Or.inr ⟨by omega, by omega, rfl⟩⟩
/-- what the reference's own loops need of the state -/
theorem y_mfacts {h : rk_S} (hI : rk_Iv rk_Y h) (hC : lC3 h) : ∃ N : Nat, rk_iv h 316 0 = N ∧ N ≤ 10 ∧ (∀ k, k < 10 → rk_iv h 317 k ≤ 40) ∧ ∀ r, r < 10 → N ≤ r → rk_iv h 317 r = 0 := by
  obtain ⟨xn, -, n2, n3⟩ := x_fok_ok hI ty_3160
  rw [← n3] at n2
  have n4 := x_one1 n2
  refine ⟨(rk_iv h 316 0).toNat, by omega, by omega, fun k hk => ?_, fun r hr hn => ?_⟩
  · obtain ⟨xl, -, l2, l3⟩ := x_aok_ok hI ty_317 (k := k) hk
    rw [← l3] at l2
    exact (x_one1 l2).2
  · rw [← hC.2.1 r hr]
    exact hC.2.2.1 r hr (by have := hC.1; omega)
theorem y_dec {x : Int32} {N : Nat} (hN : x.toInt = N) (h10 : N ≤ 10) : (x - (1 : Int32)).toInt = (N : Int) - 1 := by
  rw [Int32.toInt_sub, hN, show (1 : Int32).toInt = 1 from rfl]
  exact rk_bm (by omega) (by omega)
theorem actM_p {n d : Nat} {h : rk_S} {o : Option Value × rk_S} {r : Int32} (hG : yG h) (hI : rk_Iv rk_Y h) (hC : lC3 h) (E : rk_ex n d rm_X8_acting 0 [(0, .ref 316), (1, .int r)] [] h = some o) : aaM 15 h r.toInt o.1 o.2 := by
  obtain ⟨N, f1, f2, f3, f4⟩ := y_mfacts hI hC
  have A := yt_mat hG E
  rw [y_dec (N := N) (by rw [gi_iv, f1]) f2] at A
  rcases A with ⟨c1, -, rfl⟩ | ⟨c1, c2, -, rfl⟩ | ⟨c1, c2, m, -, -, E'⟩
  · exact ⟨rfl, _, rfl, Or.inl ⟨Or.inl c1, y_neg1⟩⟩
  · exact ⟨rfl, _, rfl, Or.inl ⟨Or.inr (by omega), y_neg1⟩⟩
  · obtain ⟨m1, d1, o1, hm1, E1, E2⟩ := E_call (ar := ([.ref 316, .int r], [])) rfl rfl rfl rfl rfl rfl E'
    replace E1 : rk_ex m1 d1 rm_X8_actingOf 0 [(0, .ref 316), (1, .int r)] [] h = some o1 := E1
    obtain ⟨u, rfl, hu⟩ := mac_ok (qn := r.toInt.toNat) hG f1 f2 f3 f4 (by omega) (by omega) E1
    replace E2 : rk_ex m1 d rm_X8_acting 13 [(0, .ref 316), (1, .int r)] [.int u] h = some o := E2
    obtain ⟨-, rfl⟩ := yt_mat1 hG E2
    exact ⟨rfl, _, rfl, Or.inr ⟨by omega, by omega, hu⟩⟩
theorem reaM_p {n d : Nat} {h : rk_S} {o : Option Value × rk_S} {r : Int32} (hG : yG h) (hI : rk_Iv rk_Y h) (hC : lC3 h) (E : rk_ex n d rm_X8_reads 0 [(0, .ref 316), (1, .int r)] [] h = some o) : aaM 16 h r.toInt o.1 o.2 := by
  obtain ⟨N, f1, f2, f3, f4⟩ := y_mfacts hI hC
  have A := yt_mre1 hG E
  rw [y_dec (N := N) (by rw [gi_iv, f1]) f2] at A
  rcases A with ⟨c1, -, rfl⟩ | ⟨c1, c2, -, rfl⟩ | ⟨c1, c2, m, -, -, E'⟩
  · exact ⟨rfl, _, rfl, Or.inl ⟨Or.inl c1, y_neg1⟩⟩
  · exact ⟨rfl, _, rfl, Or.inl ⟨Or.inr (by omega), y_neg1⟩⟩
  · obtain ⟨m1, d1, o1, hm1, E1, E2⟩ := E_call (ar := ([.ref 316, .int r], [])) rfl rfl rfl rfl rfl rfl E'
    replace E1 : rk_ex m1 d1 rm_X8_called 0 [(0, .ref 316), (1, .int r)] [] h = some o1 := E1
    obtain ⟨s, rfl, hs⟩ := ca_ok (qn := r.toInt.toNat) hG f1 f2 f3 (by omega) (by omega) E1
    replace E2 : rk_ex m1 d rm_X8_reads 15 [(0, .ref 316), (1, .int r)] [.int s] h = some o := E2
    rcases yt_mre0 hG E2 with ⟨c3, -⟩ | ⟨c3, m2, hm2, -, E3⟩
    · rw [gi_iv] at c3; omega
    · obtain ⟨u, rfl, k', hk', hu⟩ := mre_loop hG f1 f2 f3 m2 d o r 0 0 0 0 0 0 rfl (by omega) rfl (by omega) (fun b => by
        rw [bt_zero]
        constructor
        · intro z; cases z
        · rintro ⟨k', i', h0, -⟩; omega) E3
      exact ⟨rfl, _, rfl, Or.inr ⟨by omega, by omega, fun b => (hu b).trans (acA_may f2 f4 hk' hs)⟩⟩
theorem aa_pair {cl : Nat} (hcl : cl = 15 ∨ cl = 16) {h h1 h2 : rk_S} {r : Int} {v1 v2 : Option Value} (hI : rk_Iv rk_Y h) (hC : lC3 h) (hK : K1 h) (p1 : aaX cl h r v1 h1) (p2 : aaM cl h1 r v2 h2) : ∃ x1 x2 : Int32, v1 = some (.int x1) ∧ v2 = some (.int x2) ∧ x1.toInt = x2.toInt ∧ h2 = h := by
  obtain ⟨e1, x1, rfl, p1⟩ := p1
  obtain ⟨e2, x2, rfl, p2⟩ := p2
  subst e1
  refine ⟨x1, x2, rfl, rfl, ?_, e2⟩
  obtain ⟨N, f1, f2, f3, f4⟩ := y_mfacts hI hC
  have c1 := hC.1
  rcases p1 with ⟨a1, a2⟩ | ⟨a1, a2, rfl⟩
  · rcases p2 with ⟨b1, b2⟩ | ⟨b1, b2, b3⟩
    · omega
    · omega
  · rcases p2 with ⟨b1, b2⟩ | ⟨b1, b2, b3⟩
    · omega
    · have hr : r.toNat < 10 := by omega
      refine congrArg Int32.toInt (bt_ext (fun b _ => ?_))
      rw [Bool.eq_iff_iff, hK.2 cl hcl _ hr b, b3 b]
      exact may_iff (fun q c hq => cds_cdm hC hq c) cl _ b
