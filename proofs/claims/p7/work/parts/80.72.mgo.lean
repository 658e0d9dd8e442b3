/-! the reference: its loop comes to what the document says -/
def prj (w : Nat × Int32 × eT) : eO := (w.1, w.2.1, w.2.2.2.2.2.2.2.1, w.2.2.2.2.2.2.2.2.1, w.2.2.2.2.2.2.2.2.2, w.2.2.2.2.2.1, w.2.2.2.2.2.2.1, w.2.2.2.2.1)
theorem EV_prj (fl : Bool) (N : Nat) (ln : Nat → Nat) (cd : Nat → Nat → Int) (k r : Nat) (a S : eS) (L : Int32) (st : Nat) : EV fl N ln cd k r a S L st = prj (wlk fl N (EVe fl N ln cd k) a (ln r) (cd r) 41 0 (0, e0, eNo, eNo, 0, S, L, st)) := by
  rw [EV_e]
  rfl
section RKGO
variable {N : Nat} {ln : Nat → Nat} {cd : Nat → Nat → Int} {P : Nat → Prop} {tn : Nat} {tq qq pq rq aq bq cq : Int32}
theorem RT_tr {dc : Nat} {c : eC} {h h2 h' : rk_S} {q : eO} (hm : mfr tn (dc - 1) h h2) (h40 : gi h2 316 40 = gi h 316 40) (hR : RT N ln cd tn dc c h2 h' q) : RT N ln cd tn dc c h h' q := by
  obtain ⟨r1, r2, r3, r4, r5, r6, r7, r8, r9, r10, r11⟩ := hR
  exact ⟨r1, r2, r3, r4, r5, r6, fun z => (r7 z).trans h40, r8, r9, mfr_trans hm r10, r11⟩
theorem MC_mfr {fn : Nat} {c : eC} {h h2 : rk_S} (h1 : 1 ≤ fn) (hm : mfr tn fn h h2) (hC : MC h (fn - 1) c) : MC h2 (fn - 1) c := MFr_eq (fun b k hb => hm b k (by unfold mfq at hb; omega) (by unfold mfq at hb; unfold mtb; omega) (fun z => z.2 (by unfold mfq at hb; unfold mfp; omega))) hC
theorem mfr_k {fn b k : Nat} {h h2 : rk_S} (hm : mfr tn fn h h2) (hb : b = 316) (hk : k = 0 ∨ k = 21 ∨ k = 22 ∨ k = 23) : gi h2 b k = gi h b k := gi_eq (hm b k (by omega) (by unfold mtb; omega) (by omega))
/-- a call that was refused, or has come to its end, is left -/
theorem glv_ok (hPu : ∀ r, P r → ∀ i, i < ln r → eok P N (cd r i)) (htn : tn < 2) {n d fn r p sz st0 wi st rm e : Nat} {h : rk_S} {o : Option Value × rk_S} {rw a : eS} {nr sr : eB} {S S0 : eS} {L L0 v : Int32} {cc : eC} (hG : yG h) (hP : MP N ln cd h) (ht : (gi h 316 21).toInt = tn) (hV : VM N ln cd tn h) (hK : ∀ r, r < N → bt (gi h 316 22) r = true → P r) (hrm : (gi h 316 23).toInt = rm) (hrm2 : rm ≤ 32) (hd : (gi h 316 24).toInt = ((fn + 1 : Nat) : Int)) (hfn : fn < 12) (hr : r < N) (hM : MFr h fn r p sz rw a nr sr wi st0) (hW : MW tn h S L) (hst : (gi h 316 34).toInt = st) (hst0 : st0 ≤ 2000) (hev : EV true N ln cd (11 - fn) r a S0 L0 st0 = (e, v, S, L, st, sr, wi, nr)) (href : (gi h 316 39).toInt = tel e) (hmk : (e = 5 ∨ e = 6) → (gi h 316 40).toInt = 0) (hv : v = if e = 0 then (if sz = 0 then 0 else rw (sz - 1)) else 0) (hC : 1 ≤ fn → MC h (fn - 1) cc ∧ cc.2.2.1 ≤ 19) (E : rk_ex n d rm_X8_go 117 [(0, .ref 316), (1, .int tq), (2, .int qq), (3, .int pq), (4, .int rq), (5, .int aq), (6, .int bq), (7, .int cq)] [.ref 316] h = some o) : ∃ m h', m < n ∧ rk_ex m d rm_X8_go 72 [(0, .ref 316), (1, .int tq), (2, .int qq), (3, .int pq), (4, .int rq), (5, .int aq), (6, .int bq), (7, .int cq)] [] h' = some o ∧ RT N ln cd tn fn cc h h' (EV true N ln cd (11 - fn) r a S0 L0 st0) := by
  obtain ⟨m1, d1, o1, hm1, E1, E2⟩ := E_call (ar := ([.ref 316], [])) rfl rfl rfl rfl rfl rfl E
  obtain ⟨h', rfl, g⟩ := mlv_ok hPu hG hP ht htn hV hK hrm hrm2 hd hfn hr hM hW hst hst0 hev href hmk hv hC E1
  obtain ⟨m2, hm2, -, E3⟩ := ym_go1 g.1 E2
  rw [hev]
  exact ⟨m2, h', by omega, E3, g⟩
theorem gl_ok (hPu : ∀ r, P r → ∀ i, i < ln r → eok P N (cd r i)) (htn : tn < 2) : ∀ (n d : Nat) (h : rk_S) (o : Option Value × rk_S) (fn r st0 fu p sz wi st rm : Nat) (rw a : eS) (nr sr : eB) (S S0 : eS) (L L0 : Int32) (cc : eC), yG h → MP N ln cd h → (gi h 316 21).toInt = tn → VM N ln cd tn h → (∀ r, r < N → bt (gi h 316 22) r = true → P r) → (gi h 316 23).toInt = rm → rm ≤ 32 → (gi h 316 24).toInt = ((fn + 1 : Nat) : Int) → fn < 12 → r < N → MFr h fn r (min p (ln r)) sz rw a nr sr wi st0 → MW tn h S L → (gi h 316 34).toInt = st → st ≤ 2000 → st0 ≤ 2000 → (gi h 316 39).toInt = 0 → 0 < fu → ln r < fu + p → wi ≤ 11 - fn → (∀ b, nr b = true → b < 3) → (∀ b, sr b = true → b < 16) → EV true N ln cd (11 - fn) r a S0 L0 st0 = prj (wlk true N (EVe true N ln cd (11 - fn)) a (ln r) (cd r) fu p (sz, rw, nr, sr, wi, S, L, st)) → (1 ≤ fn → MC h (fn - 1) cc ∧ cc.2.2.1 ≤ 19) → rk_ex n d rm_X8_go 72 [(0, .ref 316), (1, .int tq), (2, .int qq), (3, .int pq), (4, .int rq), (5, .int aq), (6, .int bq), (7, .int cq)] [] h = some o → ∃ m h', m < n ∧ rk_ex m d rm_X8_go 72 [(0, .ref 316), (1, .int tq), (2, .int qq), (3, .int pq), (4, .int rq), (5, .int aq), (6, .int bq), (7, .int cq)] [] h' = some o ∧ RT N ln cd tn fn cc h h' (EV true N ln cd (11 - fn) r a S0 L0 st0) := by
  intro n
  induction n using Nat.strongRecOn with
  | ind n ih =>
    intro d h o fn r st0 fu p sz wi st rm rw a nr sr S S0 L L0 cc hG hP ht hV hK hrm hrm2 hd hfn hr hM hW hst hst2 hst0 h39 hfu hfu2 hwi hnr hsr hev hC E
    have hf1 : ((gi h 316 24) - (1 : Int32)).toInt = ((fn : Nat) : Int) := by
      rw [y_subc hd (j := 1) rfl (by omega) (by omega)]
      omega
    have hl := (hP.2.2 r hr).1
    have hl40 := (hP.2.2 r hr).2.1
    obtain ⟨fu, rfl⟩ : ∃ k, fu = k + 1 := ⟨fu - 1, by omega⟩
    have A := ym_go hG E
    rw [y_ix hf1, y_ix hM.1, hl, hM.2.1] at A
    -- one turn more, and it is left
    have lvr : ∀ (m2 : Nat) (h2 : rk_S) (p2 sz2 wi2 st2 e : Nat) (rw2 : eS) (nr2 sr2 : eB) (S2 : eS) (L2 : Int32), m2 < n → mfr tn fn h h2 → yG h2 → VM N ln cd tn h2 → gi h2 316 24 = gi h 316 24 → MFr h2 fn r p2 sz2 rw2 a nr2 sr2 wi2 st0 → MW tn h2 S2 L2 → (gi h2 316 34).toInt = st2 → EV true N ln cd (11 - fn) r a S0 L0 st0 = (e, 0, S2, L2, st2, sr2, wi2, nr2) → e ≠ 0 → (gi h2 316 39).toInt = tel e → ((e = 5 ∨ e = 6) → (gi h2 316 40).toInt = 0) → (¬ (e = 5 ∨ e = 6) → gi h2 316 40 = gi h 316 40) → rk_ex m2 d rm_X8_go 72 [(0, .ref 316), (1, .int tq), (2, .int qq), (3, .int pq), (4, .int rq), (5, .int aq), (6, .int bq), (7, .int cq)] [] h2 = some o → ∃ m h', m < n ∧ rk_ex m d rm_X8_go 72 [(0, .ref 316), (1, .int tq), (2, .int qq), (3, .int pq), (4, .int rq), (5, .int aq), (6, .int bq), (7, .int cq)] [] h' = some o ∧ RT N ln cd tn fn cc h h' (EV true N ln cd (11 - fn) r a S0 L0 st0) := by
      intro m2 h2 p2 sz2 wi2 st2 e rw2 nr2 sr2 S2 L2 hm2 mm g1 g2 g3 g4 g5 g6 g7 g8 g9 g10 g11 E2
      have hte : ¬ tel e = 0 := by
        unfold tel
        split <;> omega
      have h24 : (gi h2 316 24).toInt = ((fn + 1 : Nat) : Int) := by rw [g3]; exact hd
      rcases ym_go g1 E2 with ⟨c1, -⟩ | ⟨c1, c2, m3, hm3, -, E3⟩ | ⟨c1, c2, -⟩ | ⟨c1, c2, -⟩
      · omega
      · obtain ⟨m4, h', q1, q2, q3⟩ := glv_ok (cc := cc) hPu htn g1 (MP_mfr mm hP) (by rw [mfr_k mm rfl (by omega)]; exact ht) g2 (by rw [mfr_k mm rfl (by omega)]; exact hK) (by rw [mfr_k mm rfl (by omega)]; exact hrm) hrm2 h24 hfn hr g4 g5 g6 hst0 g7 g9 g10 (by rw [if_neg g8]) (fun z => ⟨MC_mfr z mm (hC z).1, (hC z).2⟩) E3
        refine ⟨m4, h', by omega, q2, ?_⟩
        obtain ⟨r1, r2, r3, r4, r5, r6, r7, r8, r9, r10, r11⟩ := q3
        exact ⟨r1, r2, r3, r4, r5, r6, fun z => (r7 z).trans (g11 (by rw [g7] at z; exact z)), r8, r9, mfr_trans (mfr_le (by omega) mm) r10, r11⟩
      · rw [g9] at c2; exact absurd c2 hte
      · rw [g9] at c2; exact absurd c2 hte
    rcases A with ⟨c1, -⟩ | ⟨c1, c2, -⟩ | ⟨c1, c2, c3, m, hm, -, E1⟩ | ⟨c1, c2, c3, m, hm, -, E1⟩
    · omega
    · exact absurd h39 c2
    · -- a step
      have hp : p < ln r := by omega
      rw [Nat.min_eq_left (by omega)] at hM
      have ew : wlk true N (EVe true N ln cd (11 - fn)) a (ln r) (cd r) (fu + 1) p (sz, rw, nr, sr, wi, S, L, st) = (if 2000 ≤ st then (5, 0, sz, rw, nr, sr, wi, S, L, st) else match cst true N (EVe true N ln cd (11 - fn)) a (cd r p) sz rw nr sr wi S L (st + 1) with | (e, k, t) => if e = 0 then wlk true N (EVe true N ln cd (11 - fn)) a (ln r) (cd r) fu (p + 1 + k) t else (e, 0, t)) := by
        rw [wlk, if_neg (by omega)]
      rw [ew] at hev
      obtain ⟨m1, d1, o1, hm1, E2, E3⟩ := E_call (ar := ([.ref 316], [])) rfl rfl rfl rfl rfl rfl E1
      rcases mst_ok hfn hr hp hG hP ht htn hd hV hst hst2 h39 hM hW E2 with ⟨s1, h2, rfl, g1, g2, g3, g4⟩ | ⟨s1, h1, h2, rfl, g0, mm, k39, k40, k24, g⟩
      · obtain ⟨m2, hm2, -, E4⟩ := ym_go2 g1 E3
        rw [if_pos (by omega)] at hev
        exact lvr m2 h2 p sz wi st 5 rw nr sr S L (by omega) (fun b k x1 x2 x3 => g4 b k (by omega)) g1 (VM_eq (fun b k z1 z2 => g4 b k (by omega)) hV) (gi_eq (g4 _ _ (by omega))) (MFr_eq (fun b k hb => g4 b k (by unfold mfq at hb; omega)) hM) (MW_eq (fun b k z => g4 b k (by omega)) hW) (by rw [gi_eq (g4 _ _ (by omega))]; exact hst) hev (by omega) (by rw [g2]; rfl) (fun _ => g3) (fun z => absurd (Or.inl rfl) z) E4
      · obtain ⟨m2, hm2, -, E4⟩ := ym_go2 g0 E3
        rw [if_neg (by omega)] at hev
        have okp := ((hP.2.2 r hr).2.2 p hp).2
        -- the same frame goes on
        have go : ∀ (m3 : Nat) (h3 : rk_S) (k sz' wi' st' : Nat) (rw' : eS) (nr' sr' : eB) (S' : eS) (L' : Int32), m3 < n → mfr tn fn h h3 → yG h3 → VM N ln cd tn h3 → gi h3 316 24 = gi h 316 24 → gi h3 316 40 = gi h 316 40 → MFr h3 fn r (min (p + 1 + k) (ln r)) sz' rw' a nr' sr' wi' st0 → MW tn h3 S' L' → (gi h3 316 34).toInt = st' → (gi h3 316 39).toInt = 0 → cst true N (EVe true N ln cd (11 - fn)) a (cd r p) sz rw nr sr wi S L (st + 1) = (0, k, sz', rw', nr', sr', wi', S', L', st') → rk_ex m3 d rm_X8_go 72 [(0, .ref 316), (1, .int tq), (2, .int qq), (3, .int pq), (4, .int rq), (5, .int aq), (6, .int bq), (7, .int cq)] [] h3 = some o → ∃ m h', m < n ∧ rk_ex m d rm_X8_go 72 [(0, .ref 316), (1, .int tq), (2, .int qq), (3, .int pq), (4, .int rq), (5, .int aq), (6, .int bq), (7, .int cq)] [] h' = some o ∧ RT N ln cd tn fn cc h h' (EV true N ln cd (11 - fn) r a S0 L0 st0) := by
          intro m3 h3 k sz' wi' st' rw' nr' sr' S' L' hm3 mm3 x1 x2 x3 x4 x5 x6 x7 x8 x9 E5
          obtain ⟨y1, y2, y3, y4, y5, y6⟩ := cst_b (EVe_B (MP_b hP) (11 - fn)) okp x9 (by omega) hwi hnr hsr
          rw [x9] at hev
          obtain ⟨m4, h', q1, q2, q3⟩ := ih m3 hm3 d h3 o fn r st0 fu (p + 1 + k) sz' wi' st' rm rw' a nr' sr' S' S0 L' L0 cc x1 (MP_mfr mm3 hP) (by rw [mfr_k mm3 rfl (by omega)]; exact ht) x2 (by rw [mfr_k mm3 rfl (by omega)]; exact hK) (by rw [mfr_k mm3 rfl (by omega)]; exact hrm) hrm2 (by rw [x3]; exact hd) hfn hr x5 x6 x7 y3 hst0 x8 (by omega) (by omega) y4 y5 y6 hev (fun z => ⟨MC_mfr z mm3 (hC z).1, (hC z).2⟩) E5
          exact ⟨m4, h', by omega, q2, RT_tr (mfr_le (by omega) mm3) x4 q3⟩
        rcases g with g | ⟨rn, e4, s3, s4, s5, g⟩
        · cases hq : cst true N (EVe true N ln cd (11 - fn)) a (cd r p) sz rw nr sr wi S L (st + 1) with
          | mk e q =>
            obtain ⟨k, sz', rw', nr', sr', wi', S', L', st'⟩ := q
            rw [hq] at g
            obtain ⟨q1, q2, q3, q4, q5, q6, q7, q8, q9, q10⟩ := g
            dsimp only at q3 q4 q5 q6 q7 q8
            have mm2 := mfr_trans mm q10
            by_cases he : e = 0
            · subst he
              exact go m2 h2 k sz' wi' st' rw' nr' sr' S' L' (by omega) mm2 q1 q2 (q9.trans k24) ((q8 (by omega)).trans k40) q3 q4 q5 q6 hq E4
            · rw [hq] at hev
              dsimp only at hev
              rw [if_neg he] at hev
              exact lvr m2 h2 _ sz' wi' st' e rw' nr' sr' S' L' (by omega) mm2 q1 q2 (q9.trans k24) q3 q4 q5 hev he q6 q7 (fun z => (q8 z).trans k40) E4
        · -- behind a call
          have back : ∀ (m3 : Nat) (h0 h3 : rk_S), m3 < n → mfr tn fn h h0 → gi h0 316 40 = gi h 316 40 → RT N ln cd tn (fn + 1) (r, p + 1, sz - 3, rw, a, nr, sr, wi, st0) h0 h3 (EV true N ln cd (11 - (fn + 1)) rn (e3 (rw (sz - 3)) (rw (sz - 2)) (rw (sz - 1))) S L (st + 1)) → rk_ex m3 d rm_X8_go 72 [(0, .ref 316), (1, .int tq), (2, .int qq), (3, .int pq), (4, .int rq), (5, .int aq), (6, .int bq), (7, .int cq)] [] h3 = some o → ∃ m h', m < n ∧ rk_ex m d rm_X8_go 72 [(0, .ref 316), (1, .int tq), (2, .int qq), (3, .int pq), (4, .int rq), (5, .int aq), (6, .int bq), (7, .int cq)] [] h' = some o ∧ RT N ln cd tn fn cc h h' (EV true N ln cd (11 - fn) r a S0 L0 st0) := by
            intro m3 h0 h3 hm3 mm0 k0 hR E5
            have ec : cst true N (EVe true N ln cd (11 - fn)) a (cd r p) sz rw nr sr wi S L (st + 1) = ((EV true N ln cd (11 - (fn + 1)) rn (e3 (rw (sz - 3)) (rw (sz - 2)) (rw (sz - 1))) S L (st + 1)).1, 0, sz - 2, eup rw (sz - 3) (EV true N ln cd (11 - (fn + 1)) rn (e3 (rw (sz - 3)) (rw (sz - 2)) (rw (sz - 1))) S L (st + 1)).2.1, nr, eor sr (EV true N ln cd (11 - (fn + 1)) rn (e3 (rw (sz - 3)) (rw (sz - 2)) (rw (sz - 1))) S L (st + 1)).2.2.2.2.2.1, max wi ((EV true N ln cd (11 - (fn + 1)) rn (e3 (rw (sz - 3)) (rw (sz - 2)) (rw (sz - 1))) S L (st + 1)).2.2.2.2.2.2.1 + 1), (EV true N ln cd (11 - (fn + 1)) rn (e3 (rw (sz - 3)) (rw (sz - 2)) (rw (sz - 1))) S L (st + 1)).2.2.1, (EV true N ln cd (11 - (fn + 1)) rn (e3 (rw (sz - 3)) (rw (sz - 2)) (rw (sz - 1))) S L (st + 1)).2.2.2.1, (EV true N ln cd (11 - (fn + 1)) rn (e3 (rw (sz - 3)) (rw (sz - 2)) (rw (sz - 1))) S L (st + 1)).2.2.2.2.1) := by
              have hN10 := hP.2.1
              unfold cst
              rw [e4, if_neg (by omega), if_neg (by omega), if_neg (by omega), if_neg (by omega), if_pos (by omega), if_neg (by omega), show (400 + (rn : Int) - 400).toNat = rn by omega, if_neg (by omega), show 11 - fn = (11 - (fn + 1)) + 1 by omega]
              rfl
            generalize EV true N ln cd (11 - (fn + 1)) rn (e3 (rw (sz - 3)) (rw (sz - 2)) (rw (sz - 1))) S L (st + 1) = Q at hR ec
            obtain ⟨e, v, S', L', st', sr', wi', nr'⟩ := Q
            obtain ⟨r1, r2, r3, r4, r5, r6, r7, r8, r9, r10, r11⟩ := hR
            dsimp only at r3 r4 r5 r6 r7 ec
            have r11 := r11 (by omega)
            unfold MC cjn at r11
            dsimp only at r11
            rw [Nat.add_sub_cancel] at r10 r11
            have mm3 := mfr_trans mm0 r10
            have e24 : gi h3 316 24 = gi h 316 24 := Int32.toInt_inj.mp (by rw [r8, hd])
            by_cases he : e = 0
            · subst he
              rw [if_pos rfl, if_pos rfl, show sz - 3 + 1 = sz - 2 by omega] at r11
              exact go m3 h3 0 (sz - 2) _ st' _ nr _ S' L' hm3 mm3 r1 r2 e24 ((r7 (by omega)).trans k0) (by rw [Nat.add_zero, Nat.min_eq_left (by omega)]; exact r11) r3 r4 r5 ec E5
            · rw [if_neg he, if_neg he] at r11
              rw [ec] at hev
              dsimp only at hev
              rw [if_neg he] at hev
              exact lvr m3 h3 _ (sz - 3) _ st' e rw nr _ S' L' hm3 mm3 r1 r2 e24 r11 r3 r4 hev he r5 r6 (fun z => (r7 z).trans k0) E5
          rcases g with ⟨q1, q2, q3, q4, q5, q6, q7, q8, q9, q10⟩ | ⟨h1', q1, q2, q3⟩
          · have mm2 := mfr_trans mm q10
            obtain ⟨m4, h4, u1, u2, u3⟩ := ih m2 (by omega) d h2 o (fn + 1) rn (st + 1) 41 0 0 0 (st + 1) rm e0 (e3 (rw (sz - 3)) (rw (sz - 2)) (rw (sz - 1))) eNo eNo S S L L (r, p + 1, sz - 3, rw, a, nr, sr, wi, st0) q1 (MP_mfr mm2 hP) (by rw [mfr_k mm2 rfl (by omega)]; exact ht) q2 (by rw [mfr_k mm2 rfl (by omega)]; exact hK) (by rw [mfr_k mm2 rfl (by omega)]; exact hrm) hrm2 q6 s5 s4 (by rw [Nat.zero_min]; exact q5) q3 q7 (by omega) (by omega) (by rw [q8, k39]; exact h39) (by omega) (by have := (hP.2.2 rn s4).2.1; omega) (by omega) (fun b hb => by cases hb) (fun b hb => by cases hb) (EV_prj _ _ _ _ _ _ _ _ _ _) (fun _ => ⟨q4, by have := hM.2.2.2.1.2.1; dsimp only; omega⟩) E4
            exact back m4 h2 h4 (by omega) mm2 (q9.trans k40) u3 u2
          · exact back m2 h1' h2 (by omega) (mfr_trans mm q2) (q3.trans k40) q1 E4
    · -- its end
      have hp : ln r ≤ p := by omega
      rw [wlk, if_pos hp] at hev
      obtain ⟨m4, h', q1, q2, q3⟩ := glv_ok (cc := cc) (e := 0) hPu htn hG hP ht hV hK hrm hrm2 hd hfn hr hM hW hst hst0 hev (by rw [h39]; rfl) (fun z => by omega) (by rw [if_pos rfl]) hC E1
      exact ⟨m4, h', by omega, q2, q3⟩
end RKGO
