/-! a call's frame: its row, its numbers, what it has read; the codes but for calls -/
def isFr (f : Nat) : Prop := ∃ j, j < 12 ∧ f = 120 + 3 * j
theorem isFr_r {f : Nat} (h : isFr f) : 120 ≤ f ∧ f ≤ 153 := by
  obtain ⟨j, h1, rfl⟩ := h
  omega
set_option maxRecDepth 100000 in
theorem yln_f12 : ∀ j : Fin 12, yln (120 + 3 * j.val) = 7 ∧ yln (120 + 3 * j.val + 1) = 3 ∧ yln (120 + 3 * j.val + 2) = 20 := by decide +kernel
theorem yln_fr {f : Nat} (h : isFr f) : yln f = 7 ∧ yln (f + 1) = 3 ∧ yln (f + 2) = 20 := by
  obtain ⟨j, h1, rfl⟩ := h
  exact yln_f12 ⟨j, h1⟩
theorem yE_fr {h : rk_S} (hG : yG h) {f : Nat} (hf : isFr f) {k : Nat} (hk : k < 7) : yE f k h := hG.yE (by have := isFr_r hf; omega) (by have := isFr_r hf; omega) (by rw [(yln_fr hf).1]; exact hk)
theorem yE_fr1 {h : rk_S} (hG : yG h) {f : Nat} (hf : isFr f) {k : Nat} (hk : k < 3) : yE (f + 1) k h := hG.yE (by omega) (by have := isFr_r hf; omega) (by rw [(yln_fr hf).2.1]; exact hk)
theorem yE_fr2 {h : rk_S} (hG : yG h) {f : Nat} (hf : isFr f) {k : Nat} (hk : k < 20) : yE (f + 2) k h := hG.yE (by omega) (by have := isFr_r hf; omega) (by rw [(yln_fr hf).2.2]; exact hk)
def FRw (h : rk_S) (f sz : Nat) (rw : eS) : Prop := (gi h f 2).toInt = sz ∧ sz ≤ 20 ∧ ∀ i, i < sz → gi h (f + 2) i = rw i
def FRd (h : rk_S) (f : Nat) (a : eS) (nr sr : eB) (wi : Nat) : Prop := (∀ i, i < 3 → gi h (f + 1) i = a i) ∧ (∀ b, bt (gi h f 3) b = nr b) ∧ (∀ b, bt (gi h f 4) b = sr b) ∧ (gi h f 5).toInt = wi
def WD (h : rk_S) (S : eS) (L : Int32) : Prop := (∀ s, s < 16 → gi h 19 s = S s) ∧ gi h 18 1 = L
/-- only the row, what was read, and the world may change -/
def lfr (f : Nat) (h h' : rk_S) : Prop := ∀ b k, ¬ (b = f ∧ k ≤ 4) → ¬ b = f + 2 → ¬ (b = 18 ∨ b = 19) → rk_get h' b k = rk_get h b k
/-- only the row -/
def pfr (f : Nat) (h h' : rk_S) : Prop := ∀ b k, ¬ (b = f ∧ k = 2) → ¬ b = f + 2 → rk_get h' b k = rk_get h b k
theorem pfr_lfr {f : Nat} {h h' : rk_S} (hp : pfr f h h') : lfr f h h' := fun b k h1 h2 _ => hp b k (fun z => h1 ⟨z.1, by omega⟩) h2
theorem pfr_trans {f : Nat} {h h' h2 : rk_S} (a : pfr f h h') (b : pfr f h' h2) : pfr f h h2 := fun c k z1 z2 => (b c k z1 z2).trans (a c k z1 z2)
theorem lfr_trans {f : Nat} {h h' h2 : rk_S} (a : lfr f h h') (b : lfr f h' h2) : lfr f h h2 := fun c k z1 z2 z3 => (b c k z1 z2 z3).trans (a c k z1 z2 z3)
theorem FRd_pfr {f : Nat} {h h' : rk_S} {a : eS} {nr sr : eB} {wi : Nat} (hp : pfr f h h') (hd : FRd h f a nr sr wi) : FRd h' f a nr sr wi := by
  obtain ⟨d1, d2, d3, d4⟩ := hd
  refine ⟨fun i hi => ?_, fun b => ?_, fun b => ?_, ?_⟩
  · rw [gi_eq (hp (f + 1) i (by omega) (by omega))]; exact d1 i hi
  · rw [gi_eq (hp f 3 (by omega) (by omega))]; exact d2 b
  · rw [gi_eq (hp f 4 (by omega) (by omega))]; exact d3 b
  · rw [gi_eq (hp f 5 (by omega) (by omega))]; exact d4
theorem WD_eq {h h' : rk_S} {S : eS} {L : Int32} (hp : ∀ b k, b = 18 ∨ b = 19 → rk_get h' b k = rk_get h b k) (hw : WD h S L) : WD h' S L := ⟨fun s hs => by rw [gi_eq (hp 19 s (Or.inr rfl))]; exact hw.1 s hs, by rw [gi_eq (hp 18 1 (Or.inl rfl))]; exact hw.2⟩
theorem WD_pfr {f : Nat} {h h' : rk_S} {S : eS} {L : Int32} (hf : isFr f) (hp : pfr f h h') (hw : WD h S L) : WD h' S L := WD_eq (fun b k hb => hp b k (by have := isFr_r hf; omega) (by have := isFr_r hf; omega)) hw
theorem y_sz {h : rk_S} {f sz : Nat} (hs : (gi h f 2).toInt = sz) : (gi h f 2).toNatClampNeg = sz := y_ix hs
theorem y_sz1 {x : Int32} {sz : Nat} (hs : x.toInt = sz) (h1 : 1 ≤ sz) (h2 : sz ≤ 20) : (x - (1 : Int32)).toInt = ((sz - 1 : Nat) : Int) := by
  rw [Int32.toInt_sub, hs, show (1 : Int32).toInt = 1 from rfl, rk_bm (by omega) (by omega)]
  omega
section RKFR
variable {n d : Nat} {h : rk_S} {o : Option Value × rk_S} {f sz : Nat} {rw : eS}
theorem put_ok {x : Int32} (hG : yG h) (hf : isFr f) (hR : FRw h f sz rw) (E : rk_ex n d rm_X0_put 0 [(0, .ref f), (1, .int x)] [] h = some o) : (sz < 20 ∧ ∃ h', o = (some (.int 0), h') ∧ yG h' ∧ FRw h' f (sz + 1) (eup rw sz x) ∧ pfr f h h') ∨ (¬ sz < 20 ∧ o = (some (.int 2), h)) := by
  obtain ⟨r1, r2, r3⟩ := hR
  have fr := isFr_r hf
  have A := yc_put hG fr.1 fr.2 E
  rw [y_sz r1] at A
  rcases A with ⟨c1, -, -⟩ | ⟨c1, c2, hG', rfl⟩ | ⟨c1, c2, -, rfl⟩
  · omega
  · refine Or.inl ⟨by omega, _, rfl, hG', ⟨?_, by omega, fun i hi => ?_⟩, fun b k z1 z2 => (rk_get_ne (by omega)).trans (rk_get_ne (Or.inl (by omega)))⟩
    · rw [gi_s (yE_pt.mpr (yE_fr hG hf (by decide))), y_inc r1 (by omega)]
    · rw [gi_x (by omega)]
      by_cases e : i = sz
      · subst e
        rw [gi_s (yE_fr2 hG hf (by omega)), eup_self]
      · rw [gi_y (Ne.symm e), eup_ne _ _ e]
        exact r3 i (by omega)
  · exact Or.inr ⟨by omega, rfl⟩
theorem take_ok (hG : yG h) (hf : isFr f) (hR : FRw h f sz rw) (h1 : 1 ≤ sz) (E : rk_ex n d rm_X0_take 0 [(0, .ref f)] [] h = some o) : ∃ h', o = (some (.int (rw (sz - 1))), h') ∧ yG h' ∧ FRw h' f (sz - 1) rw ∧ pfr f h h' := by
  obtain ⟨r1, r2, r3⟩ := hR
  have fr := isFr_r hf
  have es := y_sz1 r1 h1 r2
  have A := yc_take hG fr.1 fr.2 (yE_fr hG hf (by decide)) E
  rw [y_ix es] at A
  rcases A with ⟨c1, -, -⟩ | ⟨c1, c2, hG', rfl⟩ | ⟨c1, c2, -, -⟩
  · omega
  · refine ⟨_, by rw [r3 (sz - 1) (by omega)], hG', ⟨?_, by omega, fun i hi => ?_⟩, fun b k z1 z2 => rk_get_ne (by omega)⟩
    · rw [gi_s (yE_fr hG hf (by decide)), es]
    · rw [gi_x (by omega)]
      exact r3 i (by omega)
  · omega
theorem last_ok (hG : yG h) (hf : isFr f) (hR : FRw h f sz rw) (E : rk_ex n d rm_X0_last 0 [(0, .ref f)] [] h = some o) : o = (some (.int (if sz = 0 then 0 else rw (sz - 1))), h) := by
  obtain ⟨r1, r2, r3⟩ := hR
  have fr := isFr_r hf
  rcases yc_last hG fr.1 fr.2 E with ⟨c1, -, e⟩ | ⟨c1, c2, -, -⟩ | ⟨c1, c2, -, e⟩
  · rw [e, if_pos (by omega)]
  · omega
  · rw [y_ix (y_sz1 r1 (by omega) r2)] at e
    rw [e, if_neg (by omega), r3 (sz - 1) (by omega)]
theorem rn_ok {x : Int32} {i : Nat} {a : eS} {nr sr : eB} {wi : Nat} (hG : yG h) (hf : isFr f) (hR : FRw h f sz rw) (hD : FRd h f a nr sr wi) (hx : x.toInt = i) (hi : i < 3) (E : rk_ex n d rm_X2_readNumber 0 [(0, .ref 118), (1, .int x), (2, .ref f)] [] h = some o) : (sz < 20 ∧ ∃ h', o = (some (.int 0), h') ∧ yG h' ∧ FRw h' f (sz + 1) (eup rw sz (a i)) ∧ FRd h' f a (eup nr i true) sr wi ∧ (∀ b k, ¬ (b = f ∧ k ≤ 4) → ¬ b = f + 2 → rk_get h' b k = rk_get h b k)) ∨ (¬ sz < 20 ∧ o = (some (.int 2), h)) := by
  have fr := isFr_r hf
  have A := yc_rn hG fr.1 fr.2 (by omega) (by omega) E
  rw [y_ix hx] at A
  obtain ⟨d1, d2, d3, d4⟩ := hD
  rcases A with ⟨c1, m, hm, hG1, E1⟩ | ⟨c1, -, rfl⟩
  · rw [d1 i hi] at E1
    have r1 := hR.1
    refine Or.inl ⟨by omega, ?_⟩
    have eb : ∀ b, bt ((gi h f 3) ||| ((1 : Int32) <<< (x &&& 31))) b = eup nr i true b := by
      intro b
      rw [bt_or, bt_shl (by omega) (by omega), d2 b, show x.toInt.toNat = i by omega]
      unfold eup
      by_cases e : b = i
      · rw [if_pos e, decide_eq_true e, Bool.or_true]
      · rw [if_neg e, decide_eq_false e, Bool.or_false]
    have g3 : gi (rk_pt h f 3 (.int ((gi h f 3) ||| ((1 : Int32) <<< (x &&& 31))))) f 3 = (gi h f 3) ||| ((1 : Int32) <<< (x &&& 31)) := gi_s (yE_fr hG hf (by decide))
    have fr1 : ∀ b k, ¬ (b = f ∧ k = 3) → rk_get (rk_pt h f 3 (.int ((gi h f 3) ||| ((1 : Int32) <<< (x &&& 31))))) b k = rk_get h b k := fun b k z => rk_get_ne (by omega)
    generalize rk_pt h f 3 (.int ((gi h f 3) ||| ((1 : Int32) <<< (x &&& 31)))) = H at *
    have hR1 : FRw H f sz rw := ⟨by rw [gi_eq (fr1 f 2 (by omega))]; exact hR.1, hR.2.1, fun j hj => by rw [gi_eq (fr1 (f + 2) j (by omega))]; exact hR.2.2 j hj⟩
    have hD1 : FRd H f a (eup nr i true) sr wi := ⟨fun j hj => by rw [gi_eq (fr1 (f + 1) j (by omega))]; exact d1 j hj, fun b => by rw [g3]; exact eb b, fun b => by rw [gi_eq (fr1 f 4 (by omega))]; exact d3 b, by rw [gi_eq (fr1 f 5 (by omega))]; exact d4⟩
    obtain ⟨m1, dd1, o1, hm1, E2, E3⟩ := E_call (ar := ([.ref f, .int (a i)], [])) rfl rfl rfl rfl rfl rfl E1
    rcases put_ok hG1 hf hR1 E2 with ⟨p1, h', rfl, p2, p3, p4⟩ | ⟨p1, -⟩
    · obtain ⟨-, rfl⟩ := yc_rn1 p2 fr.1 fr.2 E3
      exact ⟨h', rfl, p2, p3, FRd_pfr p4 hD1, fun b k z1 z2 => (p4 b k (by omega) z2).trans (fr1 b k (by omega))⟩
    · omega
  · have r1 := hR.1
    exact Or.inr ⟨by omega, rfl⟩
theorem rs_ok {x : Int32} {i : Nat} {a : eS} {nr sr : eB} {wi : Nat} {S : eS} {L : Int32} (hG : yG h) (hf : isFr f) (hR : FRw h f sz rw) (hD : FRd h f a nr sr wi) (hW : WD h S L) (hx : x.toInt = i) (hi : i < 16) (E : rk_ex n d rm_X2_readStore 0 [(0, .ref 118), (1, .int x), (2, .ref f)] [] h = some o) : (sz < 20 ∧ ∃ h', o = (some (.int 0), h') ∧ yG h' ∧ FRw h' f (sz + 1) (eup rw sz (S i)) ∧ FRd h' f a nr (eup sr i true) wi ∧ (∀ b k, ¬ (b = f ∧ k ≤ 4) → ¬ b = f + 2 → rk_get h' b k = rk_get h b k)) ∨ (¬ sz < 20 ∧ o = (some (.int 2), h)) := by
  have fr := isFr_r hf
  have A := yc_rs hG fr.1 fr.2 (by omega) (by omega) E
  rw [y_ix hx] at A
  obtain ⟨d1, d2, d3, d4⟩ := hD
  rcases A with ⟨c1, m, hm, hG1, E1⟩ | ⟨c1, -, rfl⟩
  · rw [hW.1 i hi] at E1
    have r1 := hR.1
    refine Or.inl ⟨by omega, ?_⟩
    have eb : ∀ b, bt ((gi h f 4) ||| ((1 : Int32) <<< (x &&& 31))) b = eup sr i true b := by
      intro b
      rw [bt_or, bt_shl (by omega) (by omega), d3 b, show x.toInt.toNat = i by omega]
      unfold eup
      by_cases e : b = i
      · rw [if_pos e, decide_eq_true e, Bool.or_true]
      · rw [if_neg e, decide_eq_false e, Bool.or_false]
    have g3 : gi (rk_pt h f 4 (.int ((gi h f 4) ||| ((1 : Int32) <<< (x &&& 31))))) f 4 = (gi h f 4) ||| ((1 : Int32) <<< (x &&& 31)) := gi_s (yE_fr hG hf (by decide))
    have fr1 : ∀ b k, ¬ (b = f ∧ k = 4) → rk_get (rk_pt h f 4 (.int ((gi h f 4) ||| ((1 : Int32) <<< (x &&& 31))))) b k = rk_get h b k := fun b k z => rk_get_ne (by omega)
    generalize rk_pt h f 4 (.int ((gi h f 4) ||| ((1 : Int32) <<< (x &&& 31)))) = H at *
    have hR1 : FRw H f sz rw := ⟨by rw [gi_eq (fr1 f 2 (by omega))]; exact hR.1, hR.2.1, fun j hj => by rw [gi_eq (fr1 (f + 2) j (by omega))]; exact hR.2.2 j hj⟩
    have hD1 : FRd H f a nr (eup sr i true) wi := ⟨fun j hj => by rw [gi_eq (fr1 (f + 1) j (by omega))]; exact d1 j hj, fun b => by rw [gi_eq (fr1 f 3 (by omega))]; exact d2 b, fun b => by rw [g3]; exact eb b, by rw [gi_eq (fr1 f 5 (by omega))]; exact d4⟩
    obtain ⟨m1, dd1, o1, hm1, E2, E3⟩ := E_call (ar := ([.ref f, .int (S i)], [])) rfl rfl rfl rfl rfl rfl E1
    rcases put_ok hG1 hf hR1 E2 with ⟨p1, h', rfl, p2, p3, p4⟩ | ⟨p1, -⟩
    · obtain ⟨-, rfl⟩ := yc_rs1 p2 fr.1 fr.2 E3
      exact ⟨h', rfl, p2, p3, FRd_pfr p4 hD1, fun b k z1 z2 => (p4 b k (by omega) z2).trans (fr1 b k (by omega))⟩
    · omega
  · have r1 := hR.1
    exact Or.inr ⟨by omega, rfl⟩
set_option maxRecDepth 100000 in
theorem yln_w : yln 19 = 16 ∧ yln 18 = 2 := ⟨rfl, rfl⟩
theorem ws_ok {x : Int32} {i : Nat} {S : eS} {L : Int32} (hG : yG h) (hf : isFr f) (hR : FRw h f sz rw) (hW : WD h S L) (hx : x.toInt = i) (hi : i < 16) (E : rk_ex n d rm_X2_writeStore 0 [(0, .ref 118), (1, .int x), (2, .ref f)] [] h = some o) : (1 ≤ sz ∧ ∃ h', o = (some (.int 0), h') ∧ yG h' ∧ FRw h' f (sz - 1) rw ∧ WD h' (eup S i (rw (sz - 1))) L ∧ (∀ b k, ¬ (b = f ∧ k = 2) → ¬ b = f + 2 → ¬ b = 19 → rk_get h' b k = rk_get h b k)) ∨ (¬ 1 ≤ sz ∧ o = (some (.int 1), h)) := by
  have fr := isFr_r hf
  have r1 := hR.1
  rcases yc_ws hG fr.1 fr.2 E with ⟨c1, m, hm, -, E1⟩ | ⟨c1, -, rfl⟩
  · refine Or.inl ⟨by omega, ?_⟩
    obtain ⟨m1, dd1, o1, hm1, E2, E3⟩ := E_call (ar := ([.ref f], [.int x, .ref 18])) rfl rfl rfl rfl rfl rfl E1
    obtain ⟨h1, rfl, p2, p3, p4⟩ := take_ok hG hf hR (by omega) E2
    have A := yc_ws1 p2 fr.1 fr.2 (by omega) (by omega) E3
    rw [y_ix hx] at A
    obtain ⟨q1, rfl⟩ := A
    refine ⟨_, rfl, q1, ⟨?_, p3.2.1, fun j hj => ?_⟩, ⟨fun s hs => ?_, ?_⟩, fun b k z1 z2 z3 => (rk_get_ne (Or.inl (fun e => z3 e.symm))).trans (p4 b k z1 z2)⟩
    · rw [gi_x (by omega)]; exact p3.1
    · rw [gi_x (by omega)]; exact p3.2.2 j hj
    · by_cases e : s = i
      · subst e
        rw [gi_s (p2.yE (by decide) (by decide) (by rw [yln_w.1]; exact hs)), eup_self]
      · rw [gi_y (Ne.symm e), eup_ne _ _ e, gi_eq (p4 19 s (by omega) (by omega))]
        exact hW.1 s hs
    · rw [gi_x (by decide), gi_eq (p4 18 1 (by omega) (by omega))]
      exact hW.2
  · exact Or.inr ⟨by omega, rfl⟩
theorem ce_ok {x : Int32} {S : eS} {L : Int32} (hG : yG h) (hf : isFr f) (hR : FRw h f sz rw) (hW : WD h S L) (hx : x.toInt = 6 ∨ x.toInt = 7 ∨ x.toInt = 8) (E : rk_ex n d rm_X2_changeEnd 0 [(0, .ref 118), (1, .int x), (2, .ref f)] [] h = some o) :
    (x.toInt = 6 ∧ ((¬ 1 ≤ sz ∧ o = (some (.int 1), h)) ∨ (1 ≤ sz ∧ ∃ h', o = (some (.int 0), h') ∧ yG h' ∧ FRw h' f (sz - 1) rw ∧ pfr f h h'))) ∨
    (x.toInt = 7 ∧ ((¬ 1 ≤ sz ∧ o = (some (.int 1), h)) ∨ (1 ≤ sz ∧ ¬ sz < 20 ∧ o = (some (.int 2), h)) ∨ (1 ≤ sz ∧ sz < 20 ∧ ∃ h', o = (some (.int 0), h') ∧ yG h' ∧ FRw h' f (sz + 1) (eup rw sz (rw (sz - 1))) ∧ pfr f h h'))) ∨
    (x.toInt = 8 ∧ ((¬ sz < 20 ∧ o = (some (.int 2), h)) ∨ (sz < 20 ∧ ∃ h', o = (some (.int 0), h') ∧ yG h' ∧ FRw h' f (sz + 1) (eup rw sz (edrw (elot L))) ∧ WD h' S (elot L) ∧ (∀ b k, ¬ (b = f ∧ k = 2) → ¬ b = f + 2 → ¬ b = 18 → rk_get h' b k = rk_get h b k)))) := by
  have fr := isFr_r hf
  have r1 := hR.1
  have r2 := hR.2.1
  have e18 : yE 18 1 h := hG.yE (by decide) (by decide) (by rw [yln_w.2]; decide)
  rcases yc_ce hG fr.1 fr.2 e18 E with ⟨c1, c2, c3, m, hm, -, E1⟩ | ⟨c1, c2, c3, c4, m, hm, -, E1⟩ | ⟨c1, c2, c3, c4, m, hm, -, E1⟩ | ⟨c1, c2, -, rfl⟩ | ⟨c1, c2, m, hm, hG1, E1⟩ | ⟨c1, c2, -, rfl⟩
  · obtain ⟨m1, dd1, o1, hm1, E2, E3⟩ := E_call (ar := ([.ref f], [])) rfl rfl rfl rfl rfl rfl E1
    obtain ⟨h1, rfl, p2, p3, p4⟩ := take_ok hG hf hR (by omega) E2
    obtain ⟨-, rfl⟩ := yc_ce1 p2 fr.1 fr.2 E3
    exact Or.inl ⟨by omega, Or.inr ⟨by omega, _, rfl, p2, p3, p4⟩⟩
  · omega
  · rw [y_ix (y_sz1 r1 (by omega) r2), hR.2.2 (sz - 1) (by omega)] at E1
    obtain ⟨m1, dd1, o1, hm1, E2, E3⟩ := E_call (ar := ([.ref f, .int (rw (sz - 1))], [])) rfl rfl rfl rfl rfl rfl E1
    refine Or.inr (Or.inl ⟨c3, Or.inr ?_⟩)
    rcases put_ok hG hf hR E2 with ⟨p1, h', rfl, p2, p3, p4⟩ | ⟨p1, rfl⟩
    · obtain ⟨-, rfl⟩ := yc_ce_53 p2 fr.1 fr.2 E3
      exact Or.inr ⟨by omega, p1, _, rfl, p2, p3, p4⟩
    · obtain ⟨-, rfl⟩ := yc_ce_53 hG fr.1 fr.2 E3
      exact Or.inl ⟨by omega, p1, rfl⟩
  · rcases hx with hx | hx | hx
    · exact Or.inl ⟨hx, Or.inl ⟨by omega, rfl⟩⟩
    · exact Or.inr (Or.inl ⟨hx, Or.inl ⟨by omega, rfl⟩⟩)
    · omega
  · refine Or.inr (Or.inr ⟨c1, Or.inr ⟨by omega, ?_⟩⟩)
    have g1 : gi (rk_pt h 18 1 (.int (((69069 : Int32) * (gi h 18 1)) + (1 : Int32)))) 18 1 = ((69069 : Int32) * (gi h 18 1)) + (1 : Int32) := gi_s e18
    have fr1 : ∀ b k, ¬ (b = 18 ∧ k = 1) → rk_get (rk_pt h 18 1 (.int (((69069 : Int32) * (gi h 18 1)) + (1 : Int32)))) b k = rk_get h b k := fun b k z => rk_get_ne (by omega)
    rw [hW.2] at g1 fr1 hG1 E1
    generalize rk_pt h 18 1 (.int (((69069 : Int32) * L) + (1 : Int32))) = H at *
    have hR1 : FRw H f sz rw := ⟨by rw [gi_eq (fr1 f 2 (by omega))]; exact hR.1, hR.2.1, fun j hj => by rw [gi_eq (fr1 (f + 2) j (by omega))]; exact hR.2.2 j hj⟩
    obtain ⟨m1, dd1, o1, hm1, E2, E3⟩ := E_call (ar := ([.ref f, .int (edrw (elot L))], [])) rfl rfl rfl rfl rfl rfl E1
    rcases put_ok hG1 hf hR1 E2 with ⟨p1, h', rfl, p2, p3, p4⟩ | ⟨p1, -⟩
    · obtain ⟨-, rfl⟩ := yc_ce_28 p2 fr.1 fr.2 E3
      refine ⟨h', rfl, p2, p3, ⟨fun s hs => ?_, ?_⟩, fun b k z1 z2 z3 => (p4 b k z1 z2).trans (fr1 b k (by omega))⟩
      · rw [gi_eq (p4 19 s (by omega) (by omega)), gi_eq (fr1 19 s (by omega))]; exact hW.1 s hs
      · rw [gi_eq (p4 18 1 (by omega) (by omega)), g1]; rfl
    · omega
  · exact Or.inr (Or.inr ⟨c1, Or.inl ⟨by omega, rfl⟩⟩)
theorem cb_ok {x : Int32} {cz : Int} (hG : yG h) (hf : isFr f) (hR : FRw h f sz rw) (hx : x.toInt = cz - 500) (hz : 500 ≤ cz) (hz2 : cz < 506) (E : rk_ex n d rm_X2_combine 0 [(0, .ref 118), (1, .int x), (2, .ref f)] [] h = some o) :
    (sz < 2 ∧ o = (some (.int 1), h)) ∨ (¬ sz < 2 ∧ (cz = 503 ∧ (rw (sz - 1)).toInt = 0) ∧ ∃ h', o = (some (.int 3), h') ∧ yG h' ∧ pfr f h h') ∨ (¬ sz < 2 ∧ ¬ (cz = 503 ∧ (rw (sz - 1)).toInt = 0) ∧ ∃ h', o = (some (.int 0), h') ∧ yG h' ∧ FRw h' f (sz - 1) (eup rw (sz - 2) (eop cz (rw (sz - 2)) (rw (sz - 1)))) ∧ pfr f h h') := by
  have fr := isFr_r hf
  have r1 := hR.1
  have r2 := hR.2.1
  rcases (yc_cb hG fr.1 fr.2 E).symm with ⟨c1, -, rfl⟩ | ⟨c1, m, hm, -, E1⟩
  · exact Or.inl ⟨by omega, rfl⟩
  refine Or.inr ?_
  obtain ⟨m1, dd1, o1, hm1, E2, E3⟩ := E_call (ar := ([.ref f], [])) rfl rfl rfl rfl rfl rfl E1
  obtain ⟨h1, rfl, p2, p3, p4⟩ := take_ok hG hf hR (by omega) E2
  obtain ⟨m2, hm2, -, E4⟩ := yc_cb1 p2 fr.1 fr.2 E3
  obtain ⟨m3, dd3, o3, hm3, E5, E6⟩ := E_call (ar := ([.ref f], [])) rfl rfl rfl rfl rfl rfl E4
  obtain ⟨h2, rfl, q2, q3, q4⟩ := take_ok p2 hf p3 (by omega) E5
  rw [show sz - 1 - 1 = sz - 2 by omega] at q3 E6
  have A := yc_cb2 q2 fr.1 fr.2 E6
  have pt := pfr_trans p4 q4
  have sub : ∀ (v : Int32), ¬ (cz = 503 ∧ (rw (sz - 1)).toInt = 0) → eop cz (rw (sz - 2)) (rw (sz - 1)) = v → (∃ (mq dq : Nat) (oq : Option Value × rk_S), rk_ex mq dq rm_X0_put 0 (lv_args 0 [.ref f, .int v]) [] h2 = some oq ∧ ∀ y hh, oq = (some (.int y), hh) → yG hh → o = (some (.int y), hh)) → (¬ sz < 2 ∧ (cz = 503 ∧ (rw (sz - 1)).toInt = 0) ∧ ∃ h', o = (some (.int 3), h') ∧ yG h' ∧ pfr f h h') ∨ (¬ sz < 2 ∧ ¬ (cz = 503 ∧ (rw (sz - 1)).toInt = 0) ∧ ∃ h', o = (some (.int 0), h') ∧ yG h' ∧ FRw h' f (sz - 1) (eup rw (sz - 2) (eop cz (rw (sz - 2)) (rw (sz - 1)))) ∧ pfr f h h') := by
    intro v hn hv hq
    obtain ⟨mq, dq, oq, e1, e2⟩ := hq
    rcases put_ok q2 hf q3 e1 with ⟨u1, h', u2, u3, u4, u5⟩ | ⟨u1, -⟩
    · rw [show sz - 2 + 1 = sz - 1 by omega] at u4
      exact Or.inr ⟨by omega, hn, h', e2 _ _ u2 u3, u3, by rw [hv]; exact u4, pfr_trans pt u5⟩
    · omega
  rcases A with ⟨c2, -⟩ | ⟨c2, -⟩ | ⟨c2, c3, mm, hmm, -, E7⟩ | ⟨c2, c3, mm, hmm, -, E7⟩ | ⟨c2, mm, hmm, -, E7⟩ | ⟨c2, mm, hmm, -, E7⟩ | ⟨c2, mm, hmm, -, E7⟩ | ⟨c2, c3, mm, hmm, -, E7⟩ | ⟨c2, c3, -, rfl⟩ | ⟨c2, c3, mm, hmm, -, E7⟩ | ⟨c2, c3, mm, hmm, -, E7⟩
  · omega
  · omega
  · have hc : cz = 505 := by omega
    subst hc
    obtain ⟨mq, dq, oq, -, E8, E9⟩ := E_call (ar := ([.ref f, .int (0 : Int32)], [])) rfl rfl rfl rfl rfl rfl E7
    exact sub 0 (by omega) (by unfold eop; rw [if_neg (by decide), if_neg (by decide), if_neg (by decide), if_neg (by decide), if_neg (by decide), if_neg c3]) ⟨mq, dq, oq, E8, fun y hh e hg => by subst e; exact (yc_cb_131 hg fr.1 fr.2 E9).2⟩
  · have hc : cz = 505 := by omega
    subst hc
    obtain ⟨mq, dq, oq, -, E8, E9⟩ := E_call (ar := ([.ref f, .int (1 : Int32)], [])) rfl rfl rfl rfl rfl rfl E7
    exact sub 1 (by omega) (by unfold eop; rw [if_neg (by decide), if_neg (by decide), if_neg (by decide), if_neg (by decide), if_neg (by decide), if_pos c3]) ⟨mq, dq, oq, E8, fun y hh e hg => by subst e; exact (yc_cb_131 hg fr.1 fr.2 E9).2⟩
  · have hc : cz = 500 := by omega
    subst hc
    obtain ⟨mq, dq, oq, -, E8, E9⟩ := E_call (ar := ([.ref f, .int (rw (sz - 2) + rw (sz - 1))], [])) rfl rfl rfl rfl rfl rfl E7
    exact sub _ (by omega) (by unfold eop; rw [if_pos rfl]) ⟨mq, dq, oq, E8, fun y hh e hg => by subst e; exact (yc_cb_64 hg fr.1 fr.2 E9).2⟩
  · have hc : cz = 501 := by omega
    subst hc
    obtain ⟨mq, dq, oq, -, E8, E9⟩ := E_call (ar := ([.ref f, .int (rw (sz - 2) - rw (sz - 1))], [])) rfl rfl rfl rfl rfl rfl E7
    exact sub _ (by omega) (by unfold eop; rw [if_neg (by decide), if_pos rfl]) ⟨mq, dq, oq, E8, fun y hh e hg => by subst e; exact (yc_cb_73 hg fr.1 fr.2 E9).2⟩
  · have hc : cz = 502 := by omega
    subst hc
    obtain ⟨mq, dq, oq, -, E8, E9⟩ := E_call (ar := ([.ref f, .int (rw (sz - 2) * rw (sz - 1))], [])) rfl rfl rfl rfl rfl rfl E7
    exact sub _ (by omega) (by unfold eop; rw [if_neg (by decide), if_neg (by decide), if_pos rfl]) ⟨mq, dq, oq, E8, fun y hh e hg => by subst e; exact (yc_cb_82 hg fr.1 fr.2 E9).2⟩
  · have hc : cz = 503 := by omega
    subst hc
    obtain ⟨mq, dq, oq, -, E8, E9⟩ := E_call (ar := ([.ref f, .int (rw (sz - 2) / rw (sz - 1))], [])) rfl rfl rfl rfl rfl rfl E7
    exact sub _ (fun z => c3 z.2) (by unfold eop; rw [if_neg (by decide), if_neg (by decide), if_neg (by decide), if_pos rfl]) ⟨mq, dq, oq, E8, fun y hh e hg => by subst e; exact (yc_cb_99 hg fr.1 fr.2 E9).2⟩
  · exact Or.inl ⟨by omega, ⟨by omega, c3⟩, _, rfl, q2, pt⟩
  · have hc : cz = 504 := by omega
    subst hc
    obtain ⟨mq, dq, oq, -, E8, E9⟩ := E_call (ar := ([.ref f, .int (0 : Int32)], [])) rfl rfl rfl rfl rfl rfl E7
    exact sub 0 (by omega) (by unfold eop; rw [if_neg (by decide), if_neg (by decide), if_neg (by decide), if_neg (by decide), if_pos rfl, if_neg (by omega)]) ⟨mq, dq, oq, E8, fun y hh e hg => by subst e; exact (yc_cb_115 hg fr.1 fr.2 E9).2⟩
  · have hc : cz = 504 := by omega
    subst hc
    obtain ⟨mq, dq, oq, -, E8, E9⟩ := E_call (ar := ([.ref f, .int (1 : Int32)], [])) rfl rfl rfl rfl rfl rfl E7
    exact sub 1 (by omega) (by unfold eop; rw [if_neg (by decide), if_neg (by decide), if_neg (by decide), if_neg (by decide), if_pos rfl, if_pos (by omega)]) ⟨mq, dq, oq, E8, fun y hh e hg => by subst e; exact (yc_cb_115 hg fr.1 fr.2 E9).2⟩
end RKFR
