/-! the reference: calls, and how they come back -/
/-- a frame: routine, at, how many, row, numbers, numbers read, stores read, calls within, steps before -/
abbrev eC : Type := Nat × Nat × Nat × eS × eS × eB × eB × Nat × Nat
def MC (h : rk_S) (fn : Nat) (c : eC) : Prop := MFr h fn c.1 c.2.1 c.2.2.1 c.2.2.2.1 c.2.2.2.2.1 c.2.2.2.2.2.1 c.2.2.2.2.2.2.1 c.2.2.2.2.2.2.2.1 c.2.2.2.2.2.2.2.2
/-- the caller's frame behind the call -/
def cjn (c : eC) (q : eO) : eC := (c.1, c.2.1, (if q.1 = 0 then c.2.2.1 + 1 else c.2.2.1), (if q.1 = 0 then eup c.2.2.2.1 c.2.2.1 q.2.1 else c.2.2.2.1), c.2.2.2.2.1, c.2.2.2.2.2.1, eor c.2.2.2.2.2.2.1 q.2.2.2.2.2.1, max c.2.2.2.2.2.2.2.1 (q.2.2.2.2.2.2.1 + 1), c.2.2.2.2.2.2.2.2)
def tel (e : Nat) : Int := if e = 6 then 4 else (e : Int)
/-- a call came back: dc callers -/
def RT (N : Nat) (ln : Nat → Nat) (cd : Nat → Nat → Int) (tn dc : Nat) (c : eC) (h h' : rk_S) (q : eO) : Prop := yG h' ∧ VM N ln cd tn h' ∧ MW tn h' q.2.2.1 q.2.2.2.1 ∧ (gi h' 316 34).toInt = q.2.2.2.2.1 ∧ (gi h' 316 39).toInt = tel q.1 ∧ ((q.1 = 5 ∨ q.1 = 6) → (gi h' 316 40).toInt = 0) ∧ (¬ (q.1 = 5 ∨ q.1 = 6) → gi h' 316 40 = gi h 316 40) ∧ (gi h' 316 24).toInt = dc ∧ gi h' 316 41 = q.2.1 ∧ mfr tn (dc - 1) h h' ∧ (1 ≤ dc → MC h' (dc - 1) (cjn c q))
theorem yE_m {h : rk_S} (hG : yG h) {k : Nat} (hk : k < 47) : yE 316 k h := hG.yE (by decide) (by decide) (by rw [yln_m.1]; exact hk)
theorem yE_f {h : rk_S} (hG : yG h) {b k : Nat} (hb : b = 334 ∨ b = 335 ∨ b = 337 ∨ (339 ≤ b ∧ b ≤ 342)) (hk : k < 12) : yE b k h := hG.yE (by omega) (by omega) (by
  obtain ⟨-, -, -, -, -, -, -, -, -, -, -, -, -, -, -, -, -, -, l334, l335, -, l337, -, l339, l340, l341, l342⟩ := yln_m
  have hb : b = 334 ∨ b = 335 ∨ b = 337 ∨ b = 339 ∨ b = 340 ∨ b = 341 ∨ b = 342 := by omega
  rcases hb with rfl | rfl | rfl | rfl | rfl | rfl | rfl
  · rw [l334]; exact hk
  · rw [l335]; exact hk
  · rw [l337]; exact hk
  · rw [l339]; exact hk
  · rw [l340]; exact hk
  · rw [l341]; exact hk
  · rw [l342]; exact hk)
theorem yE_338 {h : rk_S} (hG : yG h) {k : Nat} (hk : k < 240) : yE 338 k h := hG.yE (by decide) (by decide) (by
  obtain ⟨-, -, -, -, -, -, -, -, -, -, -, -, -, -, -, -, -, -, -, -, -, -, l338, -⟩ := yln_m
  rw [l338]; exact hk)
theorem yE_336 {h : rk_S} (hG : yG h) {k : Nat} (hk : k < 36) : yE 336 k h := hG.yE (by decide) (by decide) (by
  obtain ⟨-, -, -, -, -, -, -, -, -, -, -, -, -, -, -, -, -, -, -, -, l336, -⟩ := yln_m
  rw [l336]; exact hk)
section RKMC
variable {n d dc : Nat} {h : rk_S} {o : Option Value × rk_S}
theorem arn_ok {x w : Int32} {wi' : Nat} {sr' : eB} {c : eC} (hG : yG h) (hd : (gi h 316 24).toInt = dc) (hdc : dc ≤ 12) (hw : w.toInt = wi') (hw2 : wi' ≤ 12) (hx : ∀ b, bt x b = sr' b) (hC : 1 ≤ dc → MC h (dc - 1) c) (E : rk_ex n d rm_X8_around 0 [(0, .ref 316), (1, .int x), (2, .int w)] [] h = some o) : ∃ h', o = (none, h') ∧ yG h' ∧ (∀ b k, ¬ (1 ≤ dc ∧ (b = 341 ∨ b = 342) ∧ k = dc - 1) → rk_get h' b k = rk_get h b k) ∧ (1 ≤ dc → MC h' (dc - 1) (c.1, c.2.1, c.2.2.1, c.2.2.2.1, c.2.2.2.2.1, c.2.2.2.2.2.1, eor c.2.2.2.2.2.2.1 sr', max c.2.2.2.2.2.2.2.1 (wi' + 1), c.2.2.2.2.2.2.2.2)) := by
  have A := ym_arn hG E
  by_cases h0 : dc = 0
  · rcases A with ⟨c1, -, rfl⟩ | ⟨c1, -⟩ | ⟨c1, -⟩
    · exact ⟨h, rfl, hG, fun _ _ _ => rfl, fun z => by omega⟩
    · omega
    · omega
  have hd1 : ((gi h 316 24) - (1 : Int32)).toInt = ((dc - 1 : Nat) : Int) := y_subc hd (j := 1) rfl (by omega) (by omega)
  have hw1 := y_inc hw (by omega)
  rw [y_ix hd1, hw1] at A
  obtain ⟨m1, m2, m3, m4, m5, m6, m7, m8⟩ := hC (by omega)
  have y1 : yE 341 (dc - 1) h := yE_f hG (by omega) (by omega)
  have y2 : yE 342 (dc - 1) h := yE_f hG (by omega) (by omega)
  have eb : ∀ b, bt ((gi h 341 (dc - 1)) ||| x) b = eor c.2.2.2.2.2.2.1 sr' b := fun b => by
    rw [bt_or, m7 b, hx b]
    rfl
  rcases A with ⟨c1, -⟩ | ⟨c1, c2, hG', rfl⟩ | ⟨c1, c2, hG', rfl⟩
  · omega
  · refine ⟨_, rfl, hG', fun b k z => (rk_get_ne (by omega)).trans (rk_get_ne (by omega)), fun _ => ?_⟩
    have f : ∀ {v1 v2 : Value} b k, b ≠ 341 → b ≠ 342 → rk_get (rk_pt (rk_pt h 341 (dc - 1) v1) 342 (dc - 1) v2) b k = rk_get h b k := fun b k z1 z2 => (rk_get_ne (Or.inl (Ne.symm z2))).trans (rk_get_ne (Or.inl (Ne.symm z1)))
    refine ⟨by rw [gi_eq (f _ _ (by decide) (by decide))]; exact m1, by rw [gi_eq (f _ _ (by decide) (by decide))]; exact m2, fun i hi => by rw [gi_eq (f _ _ (by decide) (by decide))]; exact m3 i hi, ⟨by rw [gi_eq (f _ _ (by decide) (by decide))]; exact m4.1, m4.2.1, fun i hi => by rw [gi_eq (f _ _ (by decide) (by decide))]; exact m4.2.2 i hi⟩, by rw [gi_eq (f _ _ (by decide) (by decide))]; exact m5, fun b => by rw [gi_eq (f _ _ (by decide) (by decide))]; exact m6 b, fun b => ?_, ?_⟩
    · rw [gi_x (by decide), gi_s y1]; exact eb b
    · rw [gi_s (yE_pt.mpr y2), hw1]
      dsimp only at m8 ⊢
      omega
  · refine ⟨_, rfl, hG', fun b k z => (rk_get_ne (by omega)).trans (rk_get_ne (by omega)), fun _ => ?_⟩
    have f : ∀ {v1 v2 : Value} b k, b ≠ 341 → b ≠ 342 → rk_get (rk_pt (rk_pt h 341 (dc - 1) v1) 342 (dc - 1) v2) b k = rk_get h b k := fun b k z1 z2 => (rk_get_ne (Or.inl (Ne.symm z2))).trans (rk_get_ne (Or.inl (Ne.symm z1)))
    refine ⟨by rw [gi_eq (f _ _ (by decide) (by decide))]; exact m1, by rw [gi_eq (f _ _ (by decide) (by decide))]; exact m2, fun i hi => by rw [gi_eq (f _ _ (by decide) (by decide))]; exact m3 i hi, ⟨by rw [gi_eq (f _ _ (by decide) (by decide))]; exact m4.1, m4.2.1, fun i hi => by rw [gi_eq (f _ _ (by decide) (by decide))]; exact m4.2.2 i hi⟩, by rw [gi_eq (f _ _ (by decide) (by decide))]; exact m5, fun b => by rw [gi_eq (f _ _ (by decide) (by decide))]; exact m6 b, fun b => ?_, ?_⟩
    · rw [gi_x (by decide), gi_s y1]; exact eb b
    · rw [gi_s (yE_pt.mpr y2), m8]
      dsimp only at m8 ⊢
      omega
theorem com_ok {c : eC} (hG : yG h) (hd : (gi h 316 24).toInt = dc) (hdc : dc ≤ 12) (hC : 1 ≤ dc → MC h (dc - 1) c ∧ c.2.2.1 ≤ 19) (E : rk_ex n d rm_X8_comes 0 [(0, .ref 316)] [] h = some o) : ∃ h', o = (none, h') ∧ yG h' ∧ (∀ b k, ¬ (1 ≤ dc ∧ ((b = 337 ∧ k = dc - 1) ∨ (b = 338 ∧ 20 * (dc - 1) ≤ k ∧ k < 20 * (dc - 1) + 20))) → rk_get h' b k = rk_get h b k) ∧ (1 ≤ dc → MC h' (dc - 1) (c.1, c.2.1, c.2.2.1 + 1, eup c.2.2.2.1 c.2.2.1 (gi h 316 41), c.2.2.2.2.1, c.2.2.2.2.2.1, c.2.2.2.2.2.2.1, c.2.2.2.2.2.2.2.1, c.2.2.2.2.2.2.2.2)) := by
  have A := ym_com hG E
  by_cases h0 : dc = 0
  · rcases A with ⟨c1, -, rfl⟩ | ⟨c1, -⟩
    · exact ⟨h, rfl, hG, fun _ _ _ => rfl, fun z => by omega⟩
    · omega
  have hd1 : ((gi h 316 24) - (1 : Int32)).toInt = ((dc - 1 : Nat) : Int) := y_subc hd (j := 1) rfl (by omega) (by omega)
  obtain ⟨⟨m1, m2, m3, ⟨m4, m4b, m4c⟩, m5, m6, m7, m8⟩, hsz⟩ := hC (by omega)
  rw [y_ix hd1, y_ix (y_20 hd1 m4 (by omega) (by omega))] at A
  rcases A with ⟨c1, -⟩ | ⟨c1, hG', rfl⟩
  · omega
  · generalize hs : c.2.2.1 = sz at *
    have f : ∀ b k, ¬ (b = 338 ∧ k = 20 * (dc - 1) + sz) → ¬ (b = 337 ∧ k = dc - 1) → rk_get (rk_pt (rk_pt h 338 (20 * (dc - 1) + sz) (.int (gi h 316 41))) 337 (dc - 1) (.int ((gi h 337 (dc - 1)) + (1 : Int32)))) b k = rk_get h b k := fun b k z1 z2 => (rk_get_ne (by omega)).trans (rk_get_ne (by omega))
    refine ⟨_, rfl, hG', fun b k z => f b k (by omega) (by omega), fun _ => ⟨by rw [gi_eq (f _ _ (by omega) (by omega))]; exact m1, by rw [gi_eq (f _ _ (by omega) (by omega))]; exact m2, fun i hi => by rw [gi_eq (f _ _ (by omega) (by omega))]; exact m3 i hi, ⟨?_, ?_, fun i hi => ?_⟩, by rw [gi_eq (f _ _ (by omega) (by omega))]; exact m5, fun b => by rw [gi_eq (f _ _ (by omega) (by omega))]; exact m6 b, fun b => by rw [gi_eq (f _ _ (by omega) (by omega))]; exact m7 b, by rw [gi_eq (f _ _ (by omega) (by omega))]; exact m8⟩⟩
    · rw [gi_s (yE_pt.mpr (yE_f hG (by omega) (by omega))), y_inc m4 (by omega)]
    · dsimp only
      omega
    · dsimp only at hi ⊢
      rw [gi_x (by decide)]
      by_cases e : i = sz
      · subst e
        rw [gi_s (yE_338 hG (by omega)), eup_self]
      · rw [gi_y (by omega), eup_ne _ _ e]
        exact m4c i (by omega)
theorem mput_ok {f v : Int32} {fn r p sz : Nat} {rw a : eS} {nr sr : eB} {wi st0 : Nat} (hG : yG h) (hf : f.toInt = fn) (hfn : fn < 12) (hM : MFr h fn r p sz rw a nr sr wi st0) (E : rk_ex n d rm_X8_put 0 [(0, .ref 316), (1, .int f), (2, .int v)] [] h = some o) : (sz < 20 ∧ ∃ h', o = (none, h') ∧ yG h' ∧ MFr h' fn r p (sz + 1) (eup rw sz v) a nr sr wi st0 ∧ ∀ b k, ¬ (b = 337 ∧ k = fn) → ¬ (b = 338 ∧ 20 * fn ≤ k ∧ k < 20 * fn + 20) → rk_get h' b k = rk_get h b k) ∨ (¬ sz < 20 ∧ ∃ h', o = (none, h') ∧ yG h' ∧ (gi h' 316 39).toInt = 2 ∧ ∀ b k, ¬ (b = 316 ∧ k = 39) → rk_get h' b k = rk_get h b k) := by
  obtain ⟨m1, m2, m3, ⟨m4, m4b, m4c⟩, m5, m6, m7, m8⟩ := hM
  have A := ym_put hG E
  rw [y_ix hf, y_ix (y_20 hf m4 (by omega) (by omega))] at A
  rcases A with ⟨c1, hG', rfl⟩ | ⟨c1, hG', rfl⟩
  · have f : ∀ b k, ¬ (b = 338 ∧ k = 20 * fn + sz) → ¬ (b = 337 ∧ k = fn) → rk_get (rk_pt (rk_pt h 338 (20 * fn + sz) (.int v)) 337 fn (.int ((gi h 337 fn) + (1 : Int32)))) b k = rk_get h b k := fun b k z1 z2 => (rk_get_ne (by omega)).trans (rk_get_ne (by omega))
    refine Or.inl ⟨by omega, _, rfl, hG', ⟨by rw [gi_eq (f _ _ (by omega) (by omega))]; exact m1, by rw [gi_eq (f _ _ (by omega) (by omega))]; exact m2, fun i hi => by rw [gi_eq (f _ _ (by omega) (by omega))]; exact m3 i hi, ⟨?_, by omega, fun i hi => ?_⟩, by rw [gi_eq (f _ _ (by omega) (by omega))]; exact m5, fun b => by rw [gi_eq (f _ _ (by omega) (by omega))]; exact m6 b, fun b => by rw [gi_eq (f _ _ (by omega) (by omega))]; exact m7 b, by rw [gi_eq (f _ _ (by omega) (by omega))]; exact m8⟩, fun b k z1 z2 => f b k (by omega) (by omega)⟩
    · rw [gi_s (yE_pt.mpr (yE_f hG (by omega) hfn)), y_inc m4 (by omega)]
    · rw [gi_x (by decide)]
      by_cases e : i = sz
      · subst e
        rw [gi_s (yE_338 hG (by omega)), eup_self]
      · rw [gi_y (by omega), eup_ne _ _ e]
        exact m4c i (by omega)
  · exact Or.inr ⟨by omega, _, rfl, hG', by rw [gi_s (yE_m hG (by decide))]; rfl, fun b k z => rk_get_ne (by omega)⟩
end RKMC
