/-! runs of the symbolic machine: calls within, contracts, loops -/
abbrev xD : Type := List ((Nat × Nat) × (Int × Int))
/-- a contract: how deep, the arguments, what may be written (cells, places), the answer -/
abbrev xCt : Type := Nat × List rk_ST × xD × Option rk_ST
def xCov (w : xD) (b k : Nat) : Prop := ∃ c ∈ w, c.1.1 ≤ b ∧ b ≤ c.1.2 ∧ c.2.1 ≤ (k : Int) ∧ (k : Int) ≤ c.2.2
def xArg : List rk_ST → List Value → Prop
  | [], [] => True
  | t :: ts, v :: vs => rk_okv t v ∧ xArg ts vs
  | _, _ => False
def xRes (t : Option rk_ST) (v : Option Value) : Prop := match t, v with
  | none, none => True
  | some t, some v => rk_okv t v
  | _, _ => False
def xCon (m : Nat) (c : xCt) : Prop := ∃ M, rk_m m = some M ∧ ∀ (D : Nat) (av : List Value) (h : rk_S), c.1 ≤ D → rk_Iv rk_Y h → xArg c.2.1 av → rk_wp D M 0 (lv_args 0 av) [] h (fun v h' => rk_Iv rk_Y h' ∧ (∀ b k, ¬ xCov c.2.2.1 b k → rk_get h' b k = rk_get h b k) ∧ xRes c.2.2.2 v)
/-! calls: the arguments -/
def xgx (M : rk_M) (av s : List xV) : Option (List xV × List xV) := bif Nat.ble s.length 8 && (Nat.ble av.length M.2.2.1 && Nat.ble M.2.2.1 21) then some (av, s) else none
def xgo (M : rk_M) (na kd : Nat) (st : List xV) : Option (List xV × List xV) := bif Nat.ble na st.length then (bif Nat.beq kd 0 || Nat.beq kd 4 then xgx M (st.take na).reverse (st.drop na) else match st.drop na with
    | .inr l :: s => bif l.all (fun b => match xty b with
      | some q => Nat.beq q.1 M.2.2.2.2.1
      | none => false) then xgx M (.inr l :: (st.take na).reverse) s else none
    | _ => none) else none
def xlvs : Nat → List xV → xL
  | _, [] => []
  | i, v :: vs => (i, v) :: xlvs (i + 1) vs
section RKA
variable {P : Nat → Nat → Prop} {h0 h : rk_S} {r : List Int} {S : xW} {W : xC}
theorem xsk_take {st : List xV} {c : List Value} (n : Nat) (h : xsk r st c) : xsk r (st.take n) (c.take n) := by
  induction n generalizing st c with
  | zero => trivial
  | succ n ih => cases st with
    | nil => rw [xsk_nil h]; trivial
    | cons v s =>
      obtain ⟨w, c', rfl, h1, h2⟩ := xsk_cons h
      exact ⟨h1, ih h2⟩
theorem xsk_drop {st : List xV} {c : List Value} (n : Nat) (h : xsk r st c) : xsk r (st.drop n) (c.drop n) := by
  induction n generalizing st c with
  | zero => exact h
  | succ n ih => cases st with
    | nil => rw [xsk_nil h]; trivial
    | cons v s =>
      obtain ⟨w, c', rfl, h1, h2⟩ := xsk_cons h
      exact ih h2
theorem xsk_app {s t : List xV} {c d : List Value} (h1 : xsk r s c) (h2 : xsk r t d) : xsk r (s ++ t) (c ++ d) := by
  induction s generalizing c with
  | nil => rw [xsk_nil h1]; exact h2
  | cons v s ih =>
    obtain ⟨w, c', rfl, g1, g2⟩ := xsk_cons h1
    exact ⟨g1, ih g2⟩
theorem xsk_rev {s : List xV} {c : List Value} (h : xsk r s c) : xsk r s.reverse c.reverse := by
  induction s generalizing c with
  | nil => rw [xsk_nil h]; trivial
  | cons v s ih =>
    obtain ⟨w, c', rfl, g1, g2⟩ := xsk_cons h
    rw [List.reverse_cons, List.reverse_cons]
    exact xsk_app (ih g2) ⟨g1, trivial⟩
theorem xsk_sum {s : List xV} {c : List Value} (h : xsk r s c) : (c.map fun v => v.category).sum = s.length := by
  induction s generalizing c with
  | nil => rw [xsk_nil h]; rfl
  | cons v s ih =>
    obtain ⟨w, c', rfl, g1, g2⟩ := xsk_cons h
    rw [List.map_cons, List.sum_cons, ih g2, xM_cat g1, List.length_cons, Nat.add_comm]
theorem xsk_lg {s : List xV} {c : List Value} (h : xsk r s c) : (lg_sl c).length = s.length := by
  induction s generalizing c with
  | nil => rw [xsk_nil h]; rfl
  | cons v s ih =>
    obtain ⟨w, c', rfl, g1, g2⟩ := xsk_cons h
    have ih := ih g2
    unfold lg_sl at ih ⊢
    rw [List.flatMap_cons, List.length_append, ih, if_neg (by rw [xM_cat g1]; decide), List.length_cons, List.length_cons, List.length_nil]
    omega
theorem xgx_ok {M : rk_M} {av s : List xV} {ar : List xV × List xV} {cav cs : List Value} (hg : xgx M av s = some ar) (h1 : xsk r av cav) (h2 : xsk r s cs) : rk_gx M cav cs = some (cav, cs) ∧ ar = (av, s) := by
  unfold xgx at hg
  cases e : Nat.ble s.length 8 && (Nat.ble av.length M.2.2.1 && Nat.ble M.2.2.1 21) with
  | false => rw [e] at hg; cases hg
  | true =>
    rw [e] at hg
    cases hg
    refine ⟨?_, rfl⟩
    unfold rk_gx
    rw [xsk_sum h2, xsk_lg h1, e]
    rfl
theorem xgo_ok (hI : rk_Iv rk_Y h) {M : rk_M} {na kd : Nat} {st : List xV} {ck : List Value} {ar : List xV × List xV} (hk : xsk r st ck) (hg : xgo M na kd st = some ar) : ∃ car, rk_go M na kd ck h = some car ∧ xsk r ar.1 car.1 ∧ xsk r ar.2 car.2 := by
  unfold xgo at hg
  cases e : Nat.ble na st.length with
  | false => rw [e] at hg; cases hg
  | true =>
    rw [e] at hg
    dsimp only [cond] at hg
    unfold rk_go
    rw [xsk_len hk, e]
    dsimp only [cond]
    have ht := xsk_rev (xsk_take na hk)
    have hd := xsk_drop na hk
    cases e2 : Nat.beq kd 0 || Nat.beq kd 4 with
    | true =>
      rw [e2] at hg
      obtain ⟨g1, rfl⟩ := xgx_ok hg ht hd
      exact ⟨_, g1, ht, hd⟩
    | false =>
      rw [e2] at hg
      dsimp only at hg ⊢
      split at hg
      · rename_i l s hl
        rw [hl] at hd
        cases e3 : l.all (fun b => match xty b with
          | some q => Nat.beq q.1 M.2.2.2.2.1
          | none => false) with
        | false => rw [e3] at hg; cases hg
        | true =>
          rw [e3] at hg
          obtain ⟨w, c, hc, g1, g2⟩ := xsk_cons hd
          obtain ⟨a, rfl, g3⟩ := xM_ref g1
          obtain ⟨g4, rfl⟩ := xgx_ok hg (cav := .ref a :: (ck.take na).reverse) ⟨g3, ht⟩ g2
          have q := List.all_eq_true.mp e3 a g3
          split at q
          · rename_i q' hq'
            obtain ⟨vs, f1, f2, f3⟩ := hI a _ (xty_Y hq')
            refine ⟨(.ref a :: (ck.take na).reverse, c), ?_, ⟨g3, ht⟩, g2⟩
            rw [hc]
            dsimp only
            rw [f1]
            dsimp only
            rw [q, Bool.or_true]
            exact g4
          · cases q
      · cases hg
theorem xlvs_ok {av : List xV} {cav : List Value} (h : xsk r av cav) (i : Nat) : xlv r (xlvs i av) (lv_args i cav) := by
  induction av generalizing cav i with
  | nil => intro k v hk; cases hk
  | cons v s ih =>
    obtain ⟨w, c', rfl, g1, g2⟩ := xsk_cons h
    intro k u hk
    rw [xlvs] at hk
    rw [lv_args, if_neg (by rw [xM_cat g1]; decide)]
    rcases rk_find_cons hk with ⟨rfl, rfl⟩ | ⟨e1, e2⟩
    · refine ⟨w, ?_, g1⟩
      rw [rk_find, show Nat.beq k k = true from Nat.beq_refl _]
      rfl
    · obtain ⟨w', f1, f2⟩ := ih g2 (i + 1) k u e2
      refine ⟨w', ?_, f2⟩
      rw [rk_find, rk_nbeq (Ne.symm e1)]
      exact f1
/-! contracts -/
def xagk (S : xW) : List rk_ST → List xV → Bool
  | [], [] => true
  | .inl b :: ts, .inl t :: vs => xin S t b && xagk S ts vs
  | .inr m :: ts, .inr l :: vs => l.all (fun a => xin1 a m) && xagk S ts vs
  | _, _ => false
theorem xagk_ok (hF : xF r S) : ∀ {ts : List rk_ST} {vs : List xV} {cv : List Value}, xagk S ts vs = true → xsk r vs cv → xArg ts cv
  | [], [], cv, _, h => by rw [xsk_nil h]; trivial
  | .inl b :: ts, .inl t :: vs, cv, e, h => by
    rw [xagk, Bool.and_eq_true] at e
    obtain ⟨w, c', rfl, g1, g2⟩ := xsk_cons h
    obtain ⟨x, rfl, g3⟩ := xM_int g1
    exact ⟨xin_ok hF e.1 g3, xagk_ok hF e.2 g2⟩
  | .inr m :: ts, .inr l :: vs, cv, e, h => by
    rw [xagk, Bool.and_eq_true] at e
    obtain ⟨w, c', rfl, g1, g2⟩ := xsk_cons h
    obtain ⟨x, rfl, g3⟩ := xM_ref g1
    exact ⟨xin1_ok.mp (List.all_eq_true.mp e.1 x g3), xagk_ok hF e.2 g2⟩
  | [], _ :: _, _, e, _ => by cases e
  | .inl _ :: _, [], _, e, _ => by cases e
  | .inr _ :: _, [], _, e, _ => by cases e
  | .inl _ :: _, .inr _ :: _, _, e, _ => by cases e
  | .inr _ :: _, .inl _ :: _, _, e, _ => by cases e
def xcvs (W : xC) (S : xW) (w : xD) : Bool := w.all (fun c => W.any (fun v => Nat.ble v.1.1 c.1.1 && (Nat.ble c.1.2 v.1.2 && (xpr S (xsub (xcst c.2.1) v.2.1) && xpr S (xsub v.2.2 (xcst c.2.2))))))
theorem xcvs_ok (hF : xF r S) (hW : xWP P r W) {w : xD} (h : xcvs W S w = true) {b k : Nat} (hc : xCov w b k) : P b k := by
  obtain ⟨c, h1, h2, h3, h4, h5⟩ := hc
  obtain ⟨v, g1, g2⟩ := List.any_eq_true.mp (List.all_eq_true.mp h c h1)
  rw [Bool.and_eq_true, Bool.and_eq_true, Bool.and_eq_true] at g2
  obtain ⟨x, y, f1, f2, f3⟩ := hW v g1
  have q1 := xpr_ok hF g2.2.2.1 (xsub_ok (xcst_ok hF.2.1.1 _) f1)
  have q2 := xpr_ok hF g2.2.2.2 (xsub_ok f2 (xcst_ok hF.2.1.1 _))
  have q3 := Nat.le_of_ble_eq_true g2.1
  have q4 := Nat.le_of_ble_eq_true g2.2.1
  exact f3 b k (by omega) (by omega) (by omega) (by omega)
def xdrp (S : xW) (w : xD) : xK := S.2.2.2.filter (fun p => w.all (fun c => !(Nat.ble c.1.1 p.1.1 && Nat.ble p.1.1 c.1.2) || (xpr S (xadc (c.2.1 - 1) (xscl (-1) p.1.2)) || xpr S (xadc (-(c.2.2 + 1)) p.1.2))))
def xctS (S : xW) (w : xD) : xW := (S.1, S.2.1, S.2.2.1, xdrp S w)
theorem xctS_ok (hS : xS P h0 r S h) (hW : xWP P r W) {w : xD} (hc : xcvs W S w = true) {h' : rk_S} (hI : rk_Iv rk_Y h') (hf : ∀ b k, ¬ xCov w b k → rk_get h' b k = rk_get h b k) : xS P h0 r (xctS S w) h' := by
  refine ⟨⟨hS.1.1, hS.1.2.1, hS.1.2.2⟩, fun p hp => ?_, hI, fun b k hn => ?_⟩
  · obtain ⟨h1, h2⟩ := List.mem_filter.mp hp
    obtain ⟨i, y, g1, g2, g3⟩ := hS.2.1 p h1
    refine ⟨i, y, g1, ?_, g3⟩
    rw [hf, g2]
    rintro ⟨c, f1, f2, f3, f4, f5⟩
    have q := List.all_eq_true.mp h2 c f1
    rw [Bool.or_eq_true, Bool.or_eq_true] at q
    rcases q with q | q | q
    · rw [Nat.ble_eq_true_of_le f2, Nat.ble_eq_true_of_le f3] at q
      cases q
    · have := xpr_ok hS.1 q (xadc_ok hS.1.2.1.1 (xscl_ok g1)); omega
    · have := xpr_ok hS.1 q (xadc_ok hS.1.2.1.1 g1); omega
  · rw [hf b k (fun z => hn (xcvs_ok hS.1 hW hc z))]
    exact hS.2.2.2 b k hn
/-! loops -/
abbrev xSr : Type := Nat ⊕ (Nat × Nat)
/-- a loop: what changes (locals, places), what stays, locals that are forgotten, places that are, what holds, what falls -/
abbrev xP : Type := List (xSr × xB) × List xSr × List Nat × xD × List xT × xT
def xvl (lv : xL) (kn : xK) (s : xSr) : Option xT := match s with
  | .inl j => match rk_find lv j with
    | some (.inl t) => some t
    | _ => none
  | .inr p => xkl p.1 (xcst (Int.ofNat p.2)) kn
def xvls (lv : xL) (kn : xK) : List xSr → Option (List xT)
  | [] => some []
  | s :: l => match xvl lv kn s, xvls lv kn l with
    | some t, some ts => some (t :: ts)
    | _, _ => none
def xEs (r : List Int) : List xT → List Int → Prop
  | [], [] => True
  | t :: ts, y :: ys => xE r t = some y ∧ xEs r ts ys
  | _, _ => False
theorem xEs_mono {s : List Int} (hp : r <+: s) : ∀ {ts : List xT} {ys : List Int}, xEs r ts ys → xEs s ts ys
  | [], [], _ => trivial
  | t :: ts, y :: ys, h => ⟨xE_mono hp h.1, xEs_mono hp h.2⟩
  | [], _ :: _, h => absurd h id
  | _ :: _, [], h => absurd h id
theorem xEs_app : ∀ {ts us : List xT} {ys zs : List Int}, xEs r ts ys → xEs r us zs → xEs r (ts ++ us) (ys ++ zs)
  | [], us, [], zs, _, h => h
  | t :: ts, us, y :: ys, zs, h1, h2 => ⟨h1.1, xEs_app h1.2 h2⟩
  | [], _, _ :: _, _, h, _ => absurd h id
  | _ :: _, _, [], _, h, _ => absurd h id
theorem xEs_get : ∀ {ts : List xT} {ys : List Int} {k : Nat} {t : xT}, xEs r ts ys → ts[k]? = some t → ∃ y, ys[k]? = some y ∧ xE r t = some y
  | t :: ts, y :: ys, 0, u, h, hk => by cases hk; exact ⟨y, rfl, h.1⟩
  | t :: ts, y :: ys, k + 1, u, h, hk => xEs_get (ts := ts) (ys := ys) (k := k) h.2 hk
  | [], _, _, _, _, hk => by cases hk
  | _ :: _, [], _, _, h, _ => absurd h id
theorem xEs_len : ∀ {ts : List xT} {ys : List Int}, xEs r ts ys → ys.length = ts.length
  | [], [], _ => rfl
  | t :: ts, y :: ys, h => by rw [List.length_cons, List.length_cons, xEs_len h.2]
  | [], _ :: _, h => absurd h id
  | _ :: _, [], h => absurd h id
def xsb (vs : List xT) : xT → Option xT
  | [] => some []
  | p :: t => match xsb vs t with
    | none => none
    | some s => bif Nat.beq p.1 0 then some (xadc p.2 s) else match vs[p.1 - 1]? with
      | none => none
      | some v => some (xadd (xscl p.2 v) s)
theorem xsb_ok (h0 : r[0]? = some 1) {vs : List xT} {ys : List Int} (hv : xEs r vs ys) : ∀ {t s : xT}, xsb vs t = some s → ∃ z, xE (1 :: ys) t = some z ∧ xE r s = some z
  | [], s, h => by cases h; exact ⟨0, rfl, rfl⟩
  | p :: t, s, h => by
    rw [xsb] at h
    split at h
    · cases h
    · rename_i s' hs'
      obtain ⟨z, h1, h2⟩ := xsb_ok h0 hv hs'
      cases e : Nat.beq p.1 0 with
      | true =>
        rw [e] at h
        cases h
        refine ⟨p.2 + z, ?_, xadc_ok h0 h2⟩
        rw [xE_mk (x := 1) (by rw [Nat.eq_of_beq_eq_true e]; rfl) h1]
        congr 1
        omega
      | false =>
        rw [e] at h
        dsimp only [cond] at h
        split at h
        · cases h
        · rename_i v hv'
          cases h
          obtain ⟨y, g1, g2⟩ := xEs_get hv hv'
          refine ⟨p.2 * y + z, xE_mk (x := y) ?_ h1, xadd_ok (xscl_ok g2) h2⟩
          cases hp : p.1 with
          | zero => rw [hp] at e; cases e
          | succ k =>
            rw [hp] at g1
            exact g1
/-- what a source holds -/
def xsrc (cl : rk_L) (h : rk_S) (s : xSr) (y : Int) : Prop := match s with
  | .inl j => ∃ w : Int32, rk_find cl j = some (.int w) ∧ w.toInt = y
  | .inr p => ∃ w : Int32, rk_get h p.1 p.2 = some (.int w) ∧ w.toInt = y
theorem xvl_ok (hS : xS P h0 r S h) {lv : xL} {cl : rk_L} (hl : xlv r lv cl) {s : xSr} {t : xT} (ht : xvl lv S.2.2.2 s = some t) : ∃ y, xE r t = some y ∧ xsrc cl h s y := by
  unfold xvl at ht
  split at ht
  · split at ht
    · rename_i t' ht'
      cases ht
      obtain ⟨w, g1, g2⟩ := hl _ _ ht'
      obtain ⟨x, rfl, g3⟩ := xM_int g2
      exact ⟨_, g3, x, g1, rfl⟩
    · cases ht
  · obtain ⟨i, y, g1, g2, g3⟩ := hS.2.1 _ (xkl_ok ht)
    dsimp only at g1 g2 g3
    rw [xcst_ok hS.1.2.1.1] at g1
    injection g1 with g1
    simp only [Int.ofNat_eq_natCast] at g1
    refine ⟨_, g3, y, ?_, rfl⟩
    rw [← g2]
    congr 1
    omega
def xsrs (cl : rk_L) (h : rk_S) : List (xSr × xB) → List Int → Prop
  | [], [] => True
  | m :: ms, y :: ys => xsrc cl h m.1 y ∧ xinB y m.2 ∧ xsrs cl h ms ys
  | _, _ => False
theorem xsrs_len {cl : rk_L} : ∀ {ms : List (xSr × xB)} {ys : List Int}, xsrs cl h ms ys → ys.length = ms.length
  | [], [], _ => rfl
  | t :: ts, y :: ys, hh => by rw [List.length_cons, List.length_cons, xsrs_len hh.2.2]
  | [], _ :: _, hh => absurd hh id
  | _ :: _, [], hh => absurd hh id
def xmvs (S : xW) (lv : xL) : List (xSr × xB) → Option (List xT)
  | [] => some []
  | m :: ms => match xvl lv S.2.2.2 m.1, xmvs S lv ms with
    | some t, some ts => bif xin S t m.2 then some (t :: ts) else none
    | _, _ => none
theorem xmvs_ok (hS : xS P h0 r S h) {lv : xL} {cl : rk_L} (hl : xlv r lv cl) : ∀ {ms : List (xSr × xB)} {ts : List xT}, xmvs S lv ms = some ts → ∃ ys, xEs r ts ys ∧ xsrs cl h ms ys
  | [], _, hh => by cases hh; exact ⟨[], trivial, trivial⟩
  | m :: ms, ts, hh => by
    rw [xmvs] at hh
    split at hh
    · rename_i t ts' h1 h2
      cases e : xin S t m.2 with
      | false => rw [e] at hh; cases hh
      | true =>
        rw [e] at hh
        cases hh
        obtain ⟨y, g1, g2⟩ := xvl_ok hS hl h1
        obtain ⟨ys, g3, g4⟩ := xmvs_ok hS hl h2
        exact ⟨y :: ys, ⟨g1, g3⟩, g2, xin_ok hS.1 e g1, g4⟩
    · cases hh
theorem xvls_ok (hS : xS P h0 r S h) {lv : xL} {cl : rk_L} (hl : xlv r lv cl) : ∀ {l : List xSr} {ts : List xT}, xvls lv S.2.2.2 l = some ts → ∃ ys, xEs r ts ys
  | [], _, hh => by cases hh; exact ⟨[], trivial⟩
  | m :: ms, ts, hh => by
    rw [xvls] at hh
    split at hh
    · rename_i t ts' h1 h2
      cases hh
      obtain ⟨y, g1, g2⟩ := xvl_ok hS hl h1
      obtain ⟨ys, g3⟩ := xvls_ok hS hl h2
      exact ⟨y :: ys, g1, g3⟩
    · cases hh
def xpr2 (S : xW) (t : xT) : Bool := xpr S t || S.2.2.1.any (fun c => xpr S (xsub t c))
theorem xpr2_ok (hF : xF r S) {t : xT} {y : Int} (hh : xpr2 S t = true) (hy : xE r t = some y) : 0 ≤ y := by
  unfold xpr2 at hh
  rw [Bool.or_eq_true] at hh
  rcases hh with hh | hh
  · exact xpr_ok hF hh hy
  · obtain ⟨c, h1, h2⟩ := List.any_eq_true.mp hh
    obtain ⟨x, g1, g2⟩ := hF.2.2 c h1
    have := xpr_ok hF h2 (xsub_ok hy g1)
    omega
def xivs (S : xW) (vs : List xT) (iv : List xT) : Bool := iv.all (fun t => match xsb vs t with
  | some s => xpr2 S s
  | none => false)
def xIv (ys : List Int) (iv : List xT) : Prop := ∀ t ∈ iv, ∃ z, xE (1 :: ys) t = some z ∧ 0 ≤ z
theorem xivs_ok (hF : xF r S) {vs iv : List xT} {ys : List Int} (hv : xEs r vs ys) (hh : xivs S vs iv = true) : xIv ys iv := by
  intro t ht
  have q := List.all_eq_true.mp hh t ht
  split at q
  · rename_i s hs
    obtain ⟨z, g1, g2⟩ := xsb_ok hF.2.1.1 hv hs
    exact ⟨z, g1, xpr2_ok hF q g2⟩
  · cases q
/-- places that are to be looked at -/
def xmt : xW → List xSr → Option xW
  | S, [] => some S
  | S, .inl _ :: l => xmt S l
  | S, .inr p :: l => match xty p.1 with
    | some q => bif Nat.blt p.2 q.2.1 then (match rk_slot q.2.2 p.2 with
      | .inl b => xmt (xrd S [p.1] (xcst (Int.ofNat p.2)) b).2 l
      | .inr _ => none) else none
    | none => none
theorem xmt_ok : ∀ {l : List xSr} {r : List Int} {S S' : xW}, xmt S l = some S' → xS P h0 r S h → ∃ r', r <+: r' ∧ xS P h0 r' S' h
  | [], r, S, S', hh, hS => by cases hh; exact ⟨r, x_refl r, hS⟩
  | .inl _ :: l, r, S, S', hh, hS => xmt_ok (l := l) hh hS
  | .inr p :: l, r, S, S', hh, hS => by
    rw [xmt] at hh
    split at hh
    · rename_i q hq
      cases e : Nat.blt p.2 q.2.1 with
      | false => rw [e] at hh; cases hh
      | true =>
        rw [e] at hh
        dsimp only [cond] at hh
        rw [Nat.blt_eq] at e
        split at hh
        · rename_i b hb
          obtain ⟨v, vs, g1, g2, g3, g4, g5⟩ := hS.2.2.1.get (xty_Y hq) e
          dsimp only at g5
          rw [hb] at g5
          obtain ⟨y, rfl, g6⟩ := rk_okI g5
          obtain ⟨r1, hp, hS1, -⟩ := xrd_ok hS List.mem_cons_self (xcst_ok hS.1.2.1.1 (Int.ofNat p.2)) g4 g6
          obtain ⟨r2, hp2, hS2⟩ := xmt_ok hh hS1
          exact ⟨r2, hp.trans hp2, hS2⟩
        · cases hh
    · cases hh
/-- the loop's head: new unknowns for what changes -/
def xhv : Nat → List (xSr × xB) → List (Nat × xB) × xL × xK × List xT
  | _, [] => ([], [], [], [])
  | n, m :: ms => ((n, m.2) :: (xhv (n + 1) ms).1, (match m.1 with
    | .inl j => (j, .inl [(n, 1)]) :: (xhv (n + 1) ms).2.1
    | .inr _ => (xhv (n + 1) ms).2.1), (match m.1 with
    | .inl _ => (xhv (n + 1) ms).2.2.1
    | .inr p => ((p.1, xcst (Int.ofNat p.2)), [(n, 1)]) :: (xhv (n + 1) ms).2.2.1), [(n, 1)] :: (xhv (n + 1) ms).2.2.2)
theorem xhv_ok {cl : rk_L} : ∀ {ms : List (xSr × xB)} {r ys : List Int} {n : Nat}, r.length = n → r[0]? = some 1 → xsrs cl h ms ys → (∀ i b, rk_find (xhv n ms).1 i = some b → ∃ x, (r ++ ys)[i]? = some x ∧ xinB x b) ∧ xlv (r ++ ys) (xhv n ms).2.1 cl ∧ xkn (r ++ ys) (xhv n ms).2.2.1 h ∧ xEs (r ++ ys) (xhv n ms).2.2.2 ys
  | [], r, [], n, _, _, _ => by
    refine ⟨fun i b hh => ?_, fun k v hh => ?_, fun p hp => ?_, trivial⟩
    · cases hh
    · cases hh
    · cases hp
  | m :: ms, r, y :: ys, n, hn, h1, hs => by
    have hpre : r ++ [y] <+: (r ++ [y]) ++ ys := ⟨ys, rfl⟩
    have e0 : (r ++ [y]) ++ ys = r ++ y :: ys := by rw [List.append_assoc]; rfl
    have hy : (r ++ [y])[n]? = some y := by rw [← hn]; exact List.getElem?_concat_length
    have hz : (r ++ [y])[0]? = some 1 := x_pre ⟨[y], rfl⟩ h1
    obtain ⟨a1, a2, a3, a4⟩ := xhv_ok (ms := ms) (r := r ++ [y]) (ys := ys) (n := n + 1) (by rw [List.length_append, hn]; rfl) hz hs.2.2
    rw [e0] at a1 a2 a3 a4 hpre
    have hE : xE (r ++ y :: ys) [(n, 1)] = some y := by
      rw [xE_mk (p := (n, 1)) (x_pre hpre hy) rfl]
      congr 1
      dsimp only
      omega
    have hs1 := hs.1
    refine ⟨fun i b hh => ?_, ?_, ?_, hE, a4⟩
    · rcases rk_find_cons hh with ⟨rfl, rfl⟩ | ⟨-, hh⟩
      · exact ⟨y, x_pre hpre hy, hs.2.1⟩
      · exact a1 i b hh
    · rw [xhv]
      dsimp only
      unfold xsrc at hs1
      split
      · rename_i j hj
        rw [hj] at hs1
        obtain ⟨w, g1, g2⟩ := hs1
        intro k v hk
        rcases rk_find_cons hk with ⟨rfl, rfl⟩ | ⟨-, hk⟩
        · exact ⟨_, g1, hE.trans (by rw [g2])⟩
        · exact a2 k v hk
      · exact a2
    · rw [xhv]
      dsimp only
      unfold xsrc at hs1
      split
      · exact a3
      · rename_i p hp
        rw [hp] at hs1
        obtain ⟨w, g1, g2⟩ := hs1
        intro q hq
        cases hq with
        | head => exact ⟨p.2, w, xcst_ok (x_pre hpre hz) (Int.ofNat p.2), g1, hE.trans (by rw [g2])⟩
        | tail _ hq => exact a3 q hq
  | [], _, _ :: _, _, _, _, hs => absurd hs id
  | _ :: _, _, [], _, _, _, hs => absurd hs id
def xasl (vs : List xT) : List xT → xW → Option xW
  | [], S => some S
  | t :: ts, S => match xsb vs t with
    | none => xasl vs ts S
    | some s => match xasm S s with
      | none => none
      | some S' => xasl vs ts S'
theorem xasl_ok {vs : List xT} {ys : List Int} (hv : xEs r vs ys) : ∀ {ts : List xT} {S : xW}, xF r S → xIv ys ts → ∃ S', xasl vs ts S = some S' ∧ xF r S' ∧ xsame S S'
  | [], S, hF, _ => ⟨S, rfl, hF, rfl, rfl⟩
  | t :: ts, S, hF, hh => by
    rw [xasl]
    split
    · exact xasl_ok hv hF (fun u hu => hh u (List.mem_cons_of_mem _ hu))
    · rename_i s hs
      obtain ⟨z, g1, g2⟩ := xsb_ok hF.2.1.1 hv hs
      obtain ⟨z', g3, g4⟩ := hh t List.mem_cons_self
      cases g1.symm.trans g3
      obtain ⟨S1, f1, f2, f3⟩ := xasm_ok hF g2 g4
      rw [f1]
      obtain ⟨S2, k1, k2, k3⟩ := xasl_ok (ts := ts) hv f2 (fun u hu => hh u (List.mem_cons_of_mem _ hu))
      exact ⟨S2, k1, k2, k3.1.trans f3.1, k3.2.trans f3.2⟩
def xded : List Nat → xL → xL
  | _, [] => []
  | b, q :: l => bif xin1 q.1 b then xded b l else q :: xded (q.1 :: b) l
theorem xded_ok : ∀ {lv : xL} {b : List Nat} {k : Nat} {v : xV}, rk_find (xded b lv) k = some v → ¬ k ∈ b ∧ rk_find lv k = some v
  | [], _, _, _, hh => by cases hh
  | q :: l, b, k, v, hh => by
    rw [xded] at hh
    cases e : xin1 q.1 b with
    | true =>
      rw [e] at hh
      obtain ⟨g1, g2⟩ := xded_ok hh
      refine ⟨g1, ?_⟩
      rw [rk_find, rk_nbeq (fun z => g1 (by rw [← z]; exact xin1_ok.mp e))]
      exact g2
    | false =>
      rw [e] at hh
      dsimp only [cond] at hh
      rw [rk_find]
      rcases rk_find_cons hh with ⟨rfl, rfl⟩ | ⟨h1, h2⟩
      · refine ⟨fun z => ?_, ?_⟩
        · rw [xin1_ok.mpr z] at e
          cases e
        · rw [show Nat.beq q.1 q.1 = true from Nat.beq_refl _]
          rfl
      · obtain ⟨g1, g2⟩ := xded_ok h2
        refine ⟨fun z => g1 (List.mem_cons_of_mem _ z), ?_⟩
        rw [rk_nbeq (Ne.symm h1)]
        exact g2
def xveq (v w : xV) : Bool := match v, w with
  | .inl s, .inl t => xteq s t
  | .inr l, .inr m => l == m
  | _, _ => false
theorem xveq_ok {v w : xV} (h : xveq v w = true) : v = w := by
  unfold xveq at h
  split at h
  · rw [xteq_ok h]
  · rw [eq_of_beq h]
  · cases h
/-- an open loop: its place, the locals and places that stay, the loop, the values that stay, the head's terms -/
abbrev xOp : Type := Nat × xL × xK × xP × List xT × List xT
def xarr (S : xW) (lv : xL) (p : xP) (fx : List xT) : Option (List xT) := match xmvs S lv p.1 with
  | none => none
  | some vs => bif xivs S (vs ++ fx) p.2.2.2.2.1 then some vs else none
theorem xarr_ok (hS : xS P h0 r S h) {lv : xL} {cl : rk_L} (hl : xlv r lv cl) {p : xP} {fx vs : List xT} {fs : List Int} (hf : xEs r fx fs) (hh : xarr S lv p fx = some vs) : ∃ ys, xEs r vs ys ∧ xsrs cl h p.1 ys ∧ xIv (ys ++ fs) p.2.2.2.2.1 := by
  unfold xarr at hh
  split at hh
  · cases hh
  · rename_i vs' hvs
    cases e : xivs S (vs' ++ fx) p.2.2.2.2.1 with
    | false => rw [e] at hh; cases hh
    | true =>
      rw [e] at hh
      cases hh
      obtain ⟨ys, g1, g2⟩ := xmvs_ok hS hl hvs
      exact ⟨ys, g1, g2, xivs_ok hS.1 (xEs_app g1 hf) e⟩
def xbkl (lp : xL) (lv : xL) : Bool := lp.all (fun q => match rk_find lv q.1 with
  | some v => xveq v q.2
  | none => false)
def xbkk (kp kn : xK) : Bool := kp.all (fun p => match xkl p.1.1 p.1.2 kn with
  | some t => xteq t p.2
  | none => false)
def xback (o : xOp) (lv : xL) (st : List xV) (S : xW) : Bool := match st with
  | [] => xbkl o.2.1 lv && (xbkk o.2.2.1 S.2.2.2 && (match xarr S lv o.2.2.2.1 o.2.2.2.2.1 with
    | some vs => (match xsb (o.2.2.2.2.2 ++ o.2.2.2.2.1) o.2.2.2.1.2.2.2.2.2, xsb (vs ++ o.2.2.2.2.1) o.2.2.2.1.2.2.2.2.2 with
      | some a, some b => xpr2 S (xadc (-1) (xsub a b))
      | _, _ => false)
    | none => false))
  | _ => false
theorem xbkl_ok {r1 : List Int} (hp : r1 <+: r) {lp lv : xL} {cl cl0 : rk_L} (h1 : xlv r1 lp cl0) (h2 : xlv r lv cl) (hh : xbkl lp lv = true) : xlv r1 lp cl := by
  intro k v hk
  have q := List.all_eq_true.mp hh _ (rk_find_mem hk)
  dsimp only at q
  split at q
  · rename_i v' hv'
    have := xveq_ok q
    subst this
    obtain ⟨w, g1, g2⟩ := h2 _ _ hv'
    obtain ⟨w0, g3, g4⟩ := h1 _ _ hk
    refine ⟨w, g1, ?_⟩
    cases v' with
    | inl t =>
      obtain ⟨x, rfl, g5⟩ := xM_int g2
      obtain ⟨x0, rfl, g6⟩ := xM_int g4
      have := (xE_mono hp g6).symm.trans g5
      injection this with this
      show xE r1 t = some x.toInt
      rw [g6, this]
    | inr l =>
      obtain ⟨x, rfl, g5⟩ := xM_ref g2
      exact g5
  · cases q
theorem xbkk_ok {r1 : List Int} (hp : r1 <+: r) {kp kn : xK} {g : rk_S} (h1 : xkn r1 kp g) (h2 : xkn r kn h) (hh : xbkk kp kn = true) : xkn r1 kp h := by
  intro p hm
  have q := List.all_eq_true.mp hh p hm
  split at q
  · rename_i t ht
    have e := xteq_ok q
    subst e
    obtain ⟨i, y, f1, f2, f3⟩ := h2 _ (xkl_ok ht)
    obtain ⟨i0, y0, f4, f5, f6⟩ := h1 p hm
    dsimp only at f1 f2 f3
    have e1 := (xE_mono hp f4).symm.trans f1
    have e2 := (xE_mono hp f6).symm.trans f3
    injection e1 with e1
    injection e2 with e2
    refine ⟨i, y, ?_, f2, ?_⟩
    · rw [f4]; congr 1
    · rw [f6]; congr 1
  · cases q
end RKA
