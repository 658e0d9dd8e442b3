/-! what holds at the ends of a symbolic run: one of some alternatives, each some facts -/
abbrev xSo : Type := Option (Nat × xT)
abbrev xFc : Type := List xSo × xT
def xst1 (S : xW) (v : Option xV) (k : Nat) (s : xSo) : Option xT := match s with
  | some p => bif p.2.all (fun q => Nat.ble q.1 k) then xkl p.1 p.2 S.2.2.2 else none
  | none => match v with
    | some (.inl t) => some t
    | _ => none
def xsts (S : xW) (v : Option xV) (k : Nat) : List xSo → Option (List xT)
  | [] => some []
  | s :: l => match xst1 S v k s, xsts S v k l with
    | some t, some ts => some (t :: ts)
    | _, _ => none
def xidf : Nat → Nat → List xT
  | _, 0 => []
  | n, k + 1 => [(n, 1)] :: xidf (n + 1) k
def xfct (k : Nat) (S : xW) (v : Option xV) (f : xFc) : Bool := match xsts S v k f.1 with
  | some ts => match xsb (xidf 1 k ++ ts) f.2 with
    | some s => xpr2 S s
    | none => false
  | none => false
def xHs1 (r : List Int) (h : rk_S) (w : Option Value) (s : xSo) (y : Int) : Prop := match s with
  | some p => ∃ (i : Nat) (x : Int32), xE r p.2 = some (i : Int) ∧ rk_get h p.1 i = some (.int x) ∧ x.toInt = y
  | none => ∃ x : Int32, w = some (.int x) ∧ x.toInt = y
def xHs (r : List Int) (h : rk_S) (w : Option Value) : List xSo → List Int → Prop
  | [], [] => True
  | s :: l, y :: ys => xHs1 r h w s y ∧ xHs r h w l ys
  | _, _ => False
def xHold (rt : List Int) (h : rk_S) (w : Option Value) (f : xFc) : Prop := ∃ ys, xHs (1 :: rt) h w f.1 ys ∧ ∃ z, xE (1 :: (rt ++ ys)) f.2 = some z ∧ 0 ≤ z
theorem x_eval {rt : List Int} {k : Nat} (hk : rt.length = k) : ∀ {t : xT}, t.all (fun q => Nat.ble q.1 k) = true → ∃ z, xE (1 :: rt) t = some z
  | [], _ => ⟨0, rfl⟩
  | q :: t, h => by
    rw [List.all_cons, Bool.and_eq_true] at h
    obtain ⟨z, hz⟩ := x_eval hk h.2
    have hq := Nat.le_of_ble_eq_true h.1
    have hl : q.1 < (1 :: rt).length := by rw [List.length_cons, hk]; omega
    exact ⟨_, xE_mk (List.getElem?_eq_getElem hl) hz⟩
theorem xidf_ok {r' : List Int} : ∀ {ys pre : List Int} {n : Nat}, pre.length = n → pre ++ ys <+: r' → xEs r' (xidf n ys.length) ys
  | [], _, _, _, _ => trivial
  | y :: ys, pre, n, hn, hp => by
    have hy : (pre ++ y :: ys)[n]? = some y := by
      rw [← hn, List.getElem?_append_right (Nat.le_refl _), Nat.sub_self]
      rfl
    refine ⟨?_, xidf_ok (pre := pre ++ [y]) (by rw [List.length_append, hn]; rfl) (by rw [List.append_assoc]; exact hp)⟩
    rw [xE_mk (p := (n, 1)) (x_pre hp hy) rfl]
    congr 1
    dsimp only
    omega
section RKB
variable {P : Nat → Nat → Prop} {h0 h : rk_S} {r' rt : List Int} {S : xW} {k : Nat}
theorem xsts_ok (hS : xS P h0 r' S h) (hp : 1 :: rt <+: r') (hk : rt.length = k) {v : Option xV} {w : Option Value} (hv : xrv r' v w) : ∀ {l : List xSo} {ts : List xT}, xsts S v k l = some ts → ∃ ys, xEs r' ts ys ∧ xHs (1 :: rt) h w l ys
  | [], _, hh => by cases hh; exact ⟨[], trivial, trivial⟩
  | s :: l, ts, hh => by
    rw [xsts] at hh
    split at hh
    · rename_i t ts' h1 h2
      cases hh
      obtain ⟨ys, g1, g2⟩ := xsts_ok hS hp hk hv h2
      unfold xst1 at h1
      split at h1
      · rename_i p
        cases e : p.2.all (fun q => Nat.ble q.1 k) with
        | false => rw [e] at h1; cases h1
        | true =>
          rw [e] at h1
          obtain ⟨i, y, f1, f2, f3⟩ := hS.2.1 _ (xkl_ok h1)
          dsimp only at f1 f2 f3
          obtain ⟨z, hz⟩ := x_eval hk e
          have := (xE_mono hp hz).symm.trans f1
          injection this with this
          exact ⟨y.toInt :: ys, ⟨f3, g1⟩, ⟨i, y, by rw [hz, this], f2, rfl⟩, g2⟩
      · split at h1
        · rename_i t'
          cases h1
          cases w with
          | none => exact absurd hv id
          | some w =>
            obtain ⟨x, rfl, f1⟩ := xM_int hv
            exact ⟨x.toInt :: ys, ⟨f1, g1⟩, ⟨x, rfl, rfl⟩, g2⟩
        · cases h1
    · cases hh
theorem xfct_ok (hS : xS P h0 r' S h) (hp : 1 :: rt <+: r') (hk : rt.length = k) {v : Option xV} {w : Option Value} (hv : xrv r' v w) {f : xFc} (hf : xfct k S v f = true) : xHold rt h w f := by
  unfold xfct at hf
  split at hf
  · rename_i ts hts
    split at hf
    · rename_i s hs
      obtain ⟨ys, g1, g2⟩ := xsts_ok hS hp hk hv hts
      have g3 : xEs r' (xidf 1 k) rt := by rw [← hk]; exact xidf_ok (pre := [1]) rfl hp
      obtain ⟨z, e1, e2⟩ := xsb_ok hS.1.2.1.1 (xEs_app g3 g1) hs
      exact ⟨ys, g2, z, e1, xpr2_ok hS.1 hf e2⟩
    · cases hf
  · cases hf
def xalt (k : Nat) (al : List (List xFc)) (S : xW) (v : Option xV) : Bool := al.any (fun a => a.all (xfct k S v))
def xHA (rt : List Int) (h : rk_S) (w : Option Value) (al : List (List xFc)) : Prop := ∃ a ∈ al, ∀ f ∈ a, xHold rt h w f
theorem xalt_ok (hS : xS P h0 r' S h) (hp : 1 :: rt <+: r') (hk : rt.length = k) {v : Option xV} {w : Option Value} (hv : xrv r' v w) {al : List (List xFc)} (hf : xalt k al S v = true) : xHA rt h w al := by
  obtain ⟨a, h1, h2⟩ := List.any_eq_true.mp hf
  exact ⟨a, h1, fun f hm => xfct_ok hS hp hk hv (List.all_eq_true.mp h2 f hm)⟩
/-- all ends are answers, with one of the alternatives -/
def xenA (k : Nat) (al : List (List xFc)) (o : Option (List xR)) : Bool := match o with
  | some L => L.all (fun t => Nat.beq t.1 0 && xalt k al t.2.2.2 t.2.1)
  | none => false
/-- all ends are at the place that was to be reached -/
def xenB (k : Nat) (lp : xL) (al : List (List xFc)) (o : Option (List xR)) : Bool := match o with
  | some L => L.all (fun t => !Nat.beq t.1 0 && (xbkl lp t.2.2.1 && xalt k al t.2.2.2 none))
  | none => false
variable {W : xC} {ct : List (Nat × xCt)} {ls : xLs} {f e m pc D : Nat} {al : List (List xFc)} {lv : xL} {st : List xV} {cl : rk_L} {ck : List Value} {M : rk_M}
theorem xrunA_ok (hct : ∀ q c, rk_find ct q = some c → xCon q c) (hs : xenA k al (xrun W ct ls f e [] none m pc lv st S) = true) (hM : rk_m m = some M) (hD : e ≤ D) (hW : xWP P (1 :: rt) W) (hA : xA P h0 (1 :: rt) lv st S cl ck h) (hk : rt.length = k) : rk_wp D M pc cl ck h (fun v h' => rk_Iv rk_Y h' ∧ xfr P h0 h' ∧ xHA rt h' v al) := by
  unfold xenA at hs
  split at hs
  · rename_i L hL
    refine xrun_ok hct f _ _ _ _ _ _ _ _ _ hL M hM D (1 :: rt) cl ck h _ hD hW hA (fun o ho => absurd ho List.not_mem_nil) (fun t ht r' hp => ?_)
    have q := List.all_eq_true.mp hs t ht
    rw [Bool.and_eq_true] at q
    exact ⟨fun _ v h' hv hS => ⟨hS.2.2.1, hS.2.2.2, xalt_ok hS hp hk hv q.2⟩, fun z => absurd (Nat.eq_of_beq_eq_true q.1) z⟩
  · cases hs
theorem xrunB_ok (hct : ∀ q c, rk_find ct q = some c → xCon q c) {lp : xL} {sp : Nat} {Q : Option Value → rk_S → Prop} (hs : xenB k lp al (xrun W ct ls f e [] (some sp) m pc lv st S) = true) (hM : rk_m m = some M) (hD : e ≤ D) (hW : xWP P (1 :: rt) W) (hA : xA P h0 (1 :: rt) lv st S cl ck h) (hk : rt.length = k) (hlp : xlv (1 :: rt) lp cl) (hQ : ∀ cl' h', xlv (1 :: rt) lp cl' → rk_Iv rk_Y h' → xfr P h0 h' → xHA rt h' none al → rk_wp D M sp cl' [] h' Q) : rk_wp D M pc cl ck h Q := by
  unfold xenB at hs
  split at hs
  · rename_i L hL
    refine xrun_ok hct f _ _ _ _ _ _ _ _ _ hL M hM D (1 :: rt) cl ck h _ hD hW hA (fun o ho => absurd ho List.not_mem_nil) (fun t ht r' hp => ?_)
    have q := List.all_eq_true.mp hs t ht
    rw [Bool.and_eq_true, Bool.and_eq_true, Bool.not_eq_true'] at q
    refine ⟨fun z => ?_, fun _ pc' cl' h' hsp hA' => ?_⟩
    · rw [z] at q
      cases q.1
    · cases hsp
      exact hQ cl' h' (xbkl_ok hp hlp hA'.1 q.2.1) hA'.2.2.2.2.1 hA'.2.2.2.2.2 (xalt_ok hA'.2.2 hp hk (v := none) (w := none) trivial q.2.2)
  · cases hs
end RKB
/-- an int of a heap -/
def rk_iv (h : rk_S) (c k : Nat) : Int := match rk_get h c k with
  | some (.int x) => x.toInt
  | _ => 0
theorem rk_iv_of {h : rk_S} {c k : Nat} {x : Int32} (hg : rk_get h c k = some (.int x)) : rk_iv h c k = x.toInt := by unfold rk_iv; rw [hg]
theorem rk_iv_eq {h g : rk_S} {c k : Nat} (hg : rk_get h c k = rk_get g c k) : rk_iv h c k = rk_iv g c k := by unfold rk_iv; rw [hg]
theorem x_typ {h : rk_S} (hI : rk_Iv rk_Y h) {c k n kd : Nat} {b : xB} (hc : rk_Y c = some (kd, n, rk_slot [.inl b])) (hk : k < n) : ∃ x : Int32, rk_get h c k = some (.int x) ∧ xinB x.toInt b ∧ rk_iv h c k = x.toInt := by
  obtain ⟨v, vs, g1, g2, g3, g4, g5⟩ := hI.get hc hk
  obtain ⟨x, rfl, g6⟩ := rk_okI g5
  exact ⟨x, g4, g6, rk_iv_of g4⟩
theorem x_typf {h : rk_S} (hI : rk_Iv rk_Y h) {c k n kd : Nat} {ts : List rk_ST} {b : xB} (hc : xty c = some (kd, n, ts)) (hk : k < n) (hs : rk_slot ts k = .inl b) : ∃ x : Int32, rk_get h c k = some (.int x) ∧ xinB x.toInt b ∧ rk_iv h c k = x.toInt := by
  obtain ⟨v, vs, g1, g2, g3, g4, g5⟩ := hI.get (xty_Y hc) hk
  dsimp only at g5
  rw [hs] at g5
  obtain ⟨x, rfl, g6⟩ := rk_okI g5
  exact ⟨x, g4, g6, rk_iv_of g4⟩
theorem x_one1 {x lo hi : Int} (h : xinB x [(lo, hi)]) : lo ≤ x ∧ x ≤ hi := by
  obtain ⟨c, h1, h2⟩ := h
  rw [List.mem_singleton.mp h1] at h2
  exact h2
/-- a fact of one place -/
theorem x_h1 {rt : List Int} {h : rk_S} {w : Option Value} {c : Nat} {i t : xT} (hh : xHold rt h w ([some (c, i)], t)) : ∃ k : Nat, xE (1 :: rt) i = some (k : Int) ∧ ∃ z, xE (1 :: (rt ++ [rk_iv h c k])) t = some z ∧ 0 ≤ z := by
  obtain ⟨ys, h1, z, h2, h3⟩ := hh
  cases ys with
  | nil => exact absurd h1 id
  | cons y ys =>
    cases ys with
    | cons _ _ => exact absurd h1.2 id
    | nil =>
      obtain ⟨k, x, g1, g2, g3⟩ := h1.1
      refine ⟨k, g1, z, ?_, h3⟩
      rw [rk_iv_of g2, g3]
      exact h2
theorem x_h2 {rt : List Int} {h : rk_S} {w : Option Value} {c c' : Nat} {i i' t : xT} (hh : xHold rt h w ([some (c, i), some (c', i')], t)) : ∃ k k' : Nat, xE (1 :: rt) i = some (k : Int) ∧ xE (1 :: rt) i' = some (k' : Int) ∧ ∃ z, xE (1 :: (rt ++ [rk_iv h c k, rk_iv h c' k'])) t = some z ∧ 0 ≤ z := by
  obtain ⟨ys, h1, z, h2, h3⟩ := hh
  cases ys with
  | nil => exact absurd h1 id
  | cons y ys =>
    cases ys with
    | nil => exact absurd h1.2 id
    | cons y' ys =>
      cases ys with
      | cons _ _ => exact absurd h1.2.2 id
      | nil =>
        obtain ⟨k, x, g1, g2, g3⟩ := h1.1
        obtain ⟨k', x', g4, g5, g6⟩ := h1.2.1
        refine ⟨k, k', g1, g4, z, ?_, h3⟩
        rw [rk_iv_of g2, g3, rk_iv_of g5, g6]
        exact h2
theorem x_h0 {rt : List Int} {h : rk_S} {w : Option Value} {t : xT} (hh : xHold rt h w ([], t)) : ∃ z, xE (1 :: rt) t = some z ∧ 0 ≤ z := by
  obtain ⟨ys, h1, z, h2, h3⟩ := hh
  cases ys with
  | cons _ _ => exact absurd h1 id
  | nil => exact ⟨z, by rw [List.append_nil] at h2; exact h2, h3⟩
