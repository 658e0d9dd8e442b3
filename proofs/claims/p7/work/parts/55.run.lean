/-! THE SYMBOLIC RUN -/
def xall {α β : Type} (g : α → Option (List β)) : List α → Option (List β)
  | [] => some []
  | a :: l => match g a, xall g l with
    | some x, some y => some (x ++ y)
    | _, _ => none
theorem xall_ok {α β : Type} {g : α → Option (List β)} {a : α} : ∀ {l : List α} {L : List β}, xall g l = some L → a ∈ l → ∃ x, g a = some x ∧ ∀ b ∈ x, b ∈ L
  | [], _, _, h => by cases h
  | a' :: l, L, h, hm => by
    rw [xall] at h
    split at h
    · rename_i x y h1 h2
      cases h
      cases hm with
      | head => exact ⟨x, h1, fun b hb => List.mem_append_left _ hb⟩
      | tail _ hm =>
        obtain ⟨z, g1, g2⟩ := xall_ok h2 hm
        exact ⟨z, g1, fun b hb => List.mem_append_right _ (g2 b hb)⟩
    · cases h
/-- an end: 0 and an answer, or the place that was to be reached, with its locals -/
abbrev xR : Type := Nat × Option xV × xL × xW
abbrev xF1 : Type := Nat → List xOp → Option Nat → Nat → Nat → xL → List xV → xW → Option (List xR)
def xret (M : rk_M) (i : Instr) (st : List xV) (S : xW) : Option (Option xV) := match i with
  | .ireturn => match st with
    | [.inl t] => match M.2.2.2.1 with
      | some .int => some (some (.inl t))
      | some .boolean => bif xin S t [(0, 1)] then some (some (.inl t)) else none
      | _ => none
    | _ => none
  | .areturn => match st with
    | [.inr l] => match M.2.2.2.1 with
      | some (.object _) => some (some (.inr l))
      | _ => none
    | _ => none
  | .return_ => match st with
    | [] => match M.2.2.2.1 with
      | none => some none
      | _ => none
    | _ => none
  | _ => none
def xcal (W : xC) (ct : List (Nat × xCt)) (rec : xF1) (e : Nat) (os : List xOp) (sp : Option Nat) (m pc : Nat) (lv : xL) (st : List xV) (S : xW) (q : Nat × Nat × Nat) : Option (List xR) := match e with
  | 0 => none
  | e' + 1 => bif Nat.beq q.2.2 3 then none else bif Nat.beq q.2.2 5 then (match st with
      | .inl y :: .inl x :: s => bif Nat.ble s.length 8 then xall (fun g => rec (e' + 1) os sp m g.1 g.2.1 g.2.2.1 g.2.2.2) (xsuc (pc + 3) lv (.inl y :: s) (xcmp S .lt (xsub x y) true) ++ xsuc (pc + 3) lv (.inl x :: s) (xcmp S .lt (xsub x y) false)) else none
      | _ => none)
    else match rk_m q.1 with
      | none => none
      | some M' => match xgo M' q.2.1 q.2.2 st with
        | none => none
        | some ar => match rk_find ct q.1 with
          | some c => bif Nat.ble c.1 e' && (xagk S c.2.1 ar.1 && xcvs W S c.2.2.1) then (match c.2.2.2 with
              | none => rec (e' + 1) os sp m (pc + 3) lv ar.2 (xctS S c.2.2.1)
              | some (.inl b) => rec (e' + 1) os sp m (pc + 3) lv (.inl [(S.1, 1)] :: ar.2) (xnew (xctS S c.2.2.1) b)
              | some (.inr l) => rec (e' + 1) os sp m (pc + 3) lv (.inr l :: ar.2) (xctS S c.2.2.1)) else none
          | none => match rec e' [] none q.1 0 (xlvs 0 ar.1) [] S with
            | none => none
            | some L => xall (fun t => bif Nat.beq t.1 0 then rec (e' + 1) os sp m (pc + 3) lv (t.2.1.toList ++ ar.2) t.2.2.2 else none) L
def xexe (W : xC) (ct : List (Nat × xCt)) (rec : xF1) (e : Nat) (os : List xOp) (sp : Option Nat) (m pc : Nat) (lv : xL) (st : List xV) (S : xW) : Option (List xR) := match rk_m m with
  | none => none
  | some M => match rk_find M.2.2.2.2.2 pc with
    | none => none
    | some ix => match rk_inv M ix.1 with
      | some q => xcal W ct rec e os sp m pc lv st S q
      | none => match xret M ix.1 st S with
        | some v => some [(0, v, [], S)]
        | none => match xstp W M pc lv st S ix.1 with
          | none => none
          | some L => xall (fun g => rec e os sp m g.1 g.2.1 g.2.2.1 g.2.2.2) L
def xof (pc : Nat) : List xOp → Option xOp
  | [] => none
  | o :: os => bif Nat.beq o.1 pc then some o else xof pc os
abbrev xLs : Type := List ((Nat × Nat) × xP)
def xlf (m pc : Nat) : xLs → Option xP
  | [] => none
  | q :: l => bif Nat.beq q.1.1 m && Nat.beq q.1.2 pc then some q.2 else xlf m pc l
def xmls : List (xSr × xB) → List Nat
  | [] => []
  | m :: ms => match m.1 with
    | .inl j => j :: xmls ms
    | .inr _ => xmls ms
def xlop (W : xC) (ct : List (Nat × xCt)) (rec : xF1) (e : Nat) (os : List xOp) (sp : Option Nat) (m pc : Nat) (lv : xL) (st : List xV) (S : xW) (p : xP) : Option (List xR) := match st with
  | _ :: _ => none
  | [] => match xmt S (p.1.map (fun x => x.1) ++ p.2.1) with
    | none => none
    | some S1 => match xvls lv S1.2.2.2 p.2.1 with
      | none => none
      | some fx => match xarr S1 lv p fx with
        | none => none
        | some _ => match xsb ((xhv S1.1 p.1).2.2.2 ++ fx) p.2.2.2.2.2 with
          | none => none
          | some ms => match xasl ((xhv S1.1 p.1).2.2.2 ++ fx) p.2.2.2.2.1 (S1.1 + p.1.length, (xhv S1.1 p.1).1 ++ S1.2.1, S1.2.2.1, (xhv S1.1 p.1).2.2.1 ++ xdrp S1 p.2.2.2.1) with
            | none => some []
            | some H => match xlo H.2.1 ms with
              | none => none
              | some _ => xexe W ct rec e ((pc, xded (p.2.2.1 ++ xmls p.1) lv, xdrp S1 p.2.2.2.1, p, fx, (xhv S1.1 p.1).2.2.2) :: os) sp m pc ((xhv S1.1 p.1).2.1 ++ xded (p.2.2.1 ++ xmls p.1) lv) [] H
def xrun (W : xC) (ct : List (Nat × xCt)) (ls : xLs) : Nat → xF1
  | 0 => fun _ _ _ _ _ _ _ _ => none
  | f + 1 => fun e os sp m pc lv st S => match sp == some pc with
    | true => (match st with
      | [] => some [(1, none, lv, S)]
      | _ => none)
    | false => match xof pc os with
      | some o => bif xback o lv st S then some [] else none
      | none => match xlf m pc ls with
        | some p => xlop W ct (xrun W ct ls f) e os sp m pc lv st S p
        | none => xexe W ct (xrun W ct ls f) e os sp m pc lv st S
section RKR
variable {P : Nat → Nat → Prop} {h0 : rk_S} {W : xC} {ct : List (Nat × xCt)} {ls : xLs}
def xrv (r : List Int) (v : Option xV) (w : Option Value) : Prop := match v, w with
  | none, none => True
  | some v, some w => xM r v w
  | _, _ => False
theorem xrv_list {r : List Int} {v : Option xV} {w : Option Value} (h : xrv r v w) : xsk r v.toList w.toList := by
  cases v with
  | none => cases w with
    | none => trivial
    | some w => exact absurd h id
  | some v => cases w with
    | none => exact absurd h id
    | some w => exact ⟨h, trivial⟩
def xopH (P : Nat → Nat → Prop) (h0 : rk_S) (r : List Int) (D : Nat) (M : rk_M) (Q : Option Value → rk_S → Prop) (os : List xOp) : Prop := ∀ o ∈ os, ∀ r' lv st S cl ck h, r <+: r' → xback o lv st S = true → xA P h0 r' lv st S cl ck h → rk_wp D M o.1 cl ck h Q
def xenH (P : Nat → Nat → Prop) (h0 : rk_S) (r : List Int) (D : Nat) (M : rk_M) (sp : Option Nat) (Q : Option Value → rk_S → Prop) (L : List xR) : Prop := ∀ t ∈ L, ∀ r', r <+: r' → (t.1 = 0 → ∀ v h', xrv r' t.2.1 v → xS P h0 r' t.2.2.2 h' → Q v h') ∧ (t.1 ≠ 0 → ∀ pc cl h', sp = some pc → xA P h0 r' t.2.2.1 [] t.2.2.2 cl [] h' → rk_wp D M pc cl [] h' Q)
theorem xopH_mono {r s : List Int} {D : Nat} {M : rk_M} {Q : Option Value → rk_S → Prop} {os : List xOp} (hp : r <+: s) (h : xopH P h0 r D M Q os) : xopH P h0 s D M Q os := fun o ho r' lv st S cl ck h' hr hb hA => h o ho r' lv st S cl ck h' (hp.trans hr) hb hA
theorem xenH_mono {r s : List Int} {D : Nat} {M : rk_M} {sp : Option Nat} {Q : Option Value → rk_S → Prop} {L L' : List xR} (hp : r <+: s) (hL : ∀ b ∈ L', b ∈ L) (h : xenH P h0 r D M sp Q L) : xenH P h0 s D M sp Q L' := fun t ht r' hr => h t (hL t ht) r' (hp.trans hr)
/-- a machine of ends is sound -/
def xsnd (P : Nat → Nat → Prop) (h0 : rk_S) (W : xC) (rec : xF1) : Prop := ∀ e os sp m pc lv st S L, rec e os sp m pc lv st S = some L → ∀ M, rk_m m = some M → ∀ (D : Nat) (r : List Int) cl ck h (Q : Option Value → rk_S → Prop), e ≤ D → xWP P r W → xA P h0 r lv st S cl ck h → xopH P h0 r D M Q os → xenH P h0 r D M sp Q L → rk_wp D M pc cl ck h Q
theorem xret_ok {r : List Int} {M : rk_M} {i : Instr} {st : List xV} {S : xW} {v : Option xV} {ck : List Value} (hF : xF r S) (hs : xret M i st S = some v) (hk : xsk r st ck) : ∃ w, rk_ret M i ck = some w ∧ xrv r v w := by
  unfold xret at hs
  split at hs
  · split at hs
    · rename_i t
      obtain ⟨w, c, rfl, g2, g3⟩ := xsk_cons hk
      obtain ⟨x, rfl, g4⟩ := xM_int g2
      rw [xsk_nil g3]
      split at hs
      · rename_i e
        cases hs
        exact ⟨some (.int x), by simp only [rk_ret, e], g2⟩
      · rename_i e
        cases e2 : xin S t [(0, 1)] with
        | false => rw [e2] at hs; cases hs
        | true =>
          rw [e2] at hs
          cases hs
          refine ⟨some (.int x), ?_, g2⟩
          rcases x_bit (xin_ok hF e2 g4) with rfl | rfl <;> simp [rk_ret, e]
      · cases hs
    · cases hs
  · split at hs
    · rename_i t
      obtain ⟨w, c, rfl, g2, g3⟩ := xsk_cons hk
      obtain ⟨x, rfl, g4⟩ := xM_ref g2
      rw [xsk_nil g3]
      split at hs
      · rename_i e
        cases hs
        exact ⟨some (.ref x), by simp only [rk_ret, e], g2⟩
      · cases hs
    · cases hs
  · split at hs
    · rw [xsk_nil hk]
      split at hs
      · rename_i e
        cases hs
        exact ⟨none, by simp only [rk_ret, e], trivial⟩
      · cases hs
    · cases hs
  · cases hs
variable {rec : xF1}
theorem xall_wp (hr : xsnd P h0 W rec) {e : Nat} {os : List xOp} {sp : Option Nat} {m : Nat} {M : rk_M} (hM : rk_m m = some M) {G : List xG} {L : List xR} {D : Nat} {r : List Int} {Q : Option Value → rk_S → Prop} (he : e ≤ D) (hW : xWP P r W) (ho : xopH P h0 r D M Q os) (hn : xenH P h0 r D M sp Q L) (hG : xall (fun g => rec e os sp m g.1 g.2.1 g.2.2.1 g.2.2.2) G = some L) : xcont P h0 r D M Q G := by
  intro s hs r' cl ck h' hp hA
  obtain ⟨x, g1, g2⟩ := xall_ok hG hs
  exact hr _ _ _ _ _ _ _ _ _ g1 M hM D r' cl ck h' Q he (xWP_mono hp hW) hA (xopH_mono hp ho) (xenH_mono hp g2 hn)
theorem xcal_ok (hr : xsnd P h0 W rec) (hct : ∀ q c, rk_find ct q = some c → xCon q c) {e : Nat} {os : List xOp} {sp : Option Nat} {m pc : Nat} {lv : xL} {st : List xV} {S : xW} {L : List xR} {q : Nat × Nat × Nat} (hs : xcal W ct rec e os sp m pc lv st S q = some L) {M : rk_M} (hM : rk_m m = some M) {D : Nat} {r : List Int} {cl : rk_L} {ck : List Value} {h : rk_S} {Q : Option Value → rk_S → Prop} (he : e ≤ D) (hW : xWP P r W) (hA : xA P h0 r lv st S cl ck h) (ho : xopH P h0 r D M Q os) (hn : xenH P h0 r D M sp Q L) {ix : Instr × Nat} (hix : rk_find M.2.2.2.2.2 pc = some ix) (hq : rk_inv M ix.1 = some q) : rk_wp D M pc cl ck h Q := by
  unfold xcal at hs
  split at hs
  · cases hs
  · rename_i e'
    cases D with
    | zero => omega
    | succ D =>
    cases e3 : Nat.beq q.2.2 3 with
    | true => rw [e3] at hs; cases hs
    | false =>
    rw [e3] at hs
    dsimp only [cond] at hs
    have n3 : q.2.2 ≠ 3 := fun z => by rw [z] at e3; cases e3
    cases e5 : Nat.beq q.2.2 5 with
    | true =>
      rw [e5] at hs
      dsimp only [cond] at hs
      split at hs
      · rename_i b a s
        cases e8 : Nat.ble s.length 8 with
        | false => rw [e8] at hs; cases hs
        | true =>
          rw [e8] at hs
          have kk := xall_wp hr hM he hW ho hn hs
          obtain ⟨w, c, rfl, g2, g3⟩ := xsk_cons hA.2.1
          obtain ⟨y, rfl, g4⟩ := xM_int g2
          obtain ⟨w, c, rfl, g5, g6⟩ := xsk_cons g3
          obtain ⟨x, rfl, g7⟩ := xM_int g5
          refine wp_mx hix hq (Nat.eq_of_beq_eq_true e5) (by rw [xsk_sum g6]; exact Nat.le_of_ble_eq_true e8) ?_
          by_cases z : x < y
          · rw [if_pos z]
            obtain ⟨S', f1, f2, f3⟩ := xcmp_ok (o := .lt) hA.2.2.1 (xsub_ok g7 g4) (b := true) (decide_eq_true (Int32.lt_iff_toInt_lt.mp z))
            exact xsuc_ok (st := .inl b :: s) ⟨hA.1, ⟨g4, g6⟩⟩ ⟨S', f1, xS_same hA.2.2 f2 f3⟩ (xcont_l kk)
          · rw [if_neg z]
            obtain ⟨S', f1, f2, f3⟩ := xcmp_ok (o := .lt) hA.2.2.1 (xsub_ok g7 g4) (b := false) (decide_eq_false (fun t => z (Int32.lt_iff_toInt_lt.mpr t)))
            exact xsuc_ok (st := .inl a :: s) ⟨hA.1, ⟨g7, g6⟩⟩ ⟨S', f1, xS_same hA.2.2 f2 f3⟩ (xcont_r kk)
      · cases hs
    | false =>
    rw [e5] at hs
    dsimp only [cond] at hs
    have n5 : q.2.2 ≠ 5 := fun z => by rw [z] at e5; cases e5
    split at hs
    · cases hs
    · rename_i M' hM'
      split at hs
      · cases hs
      · rename_i ar har
        obtain ⟨car, c1, c2, c3⟩ := xgo_ok hA.2.2.2.2.1 hA.2.1 har
        split at hs
        · rename_i c hc
          obtain ⟨M2, k1, k2⟩ := hct _ _ hc
          cases hM'.symm.trans k1
          cases eb : Nat.ble c.1 e' && (xagk S c.2.1 ar.1 && xcvs W S c.2.2.1) with
          | false => rw [eb] at hs; cases hs
          | true =>
            rw [eb] at hs
            dsimp only [cond] at hs
            rw [Bool.and_eq_true, Bool.and_eq_true] at eb
            obtain ⟨b1, b2, b3⟩ := eb
            have b1 := Nat.le_of_ble_eq_true b1
            refine wp_call hix hq n3 n5 hM' c1 (k2 D car.1 h (by omega) hA.2.2.2.2.1 (xagk_ok hA.2.2.1 b2 c2)) (fun v h' hv => ?_)
            obtain ⟨v1, v2, v3⟩ := hv
            have hS' := xctS_ok hA.2.2 hW b3 v1 v2
            split at hs
            · rename_i hres
              rw [hres] at v3
              cases v with
              | some w => exact absurd v3 id
              | none => exact hr _ _ _ _ _ _ _ _ _ hs M hM _ r cl car.2 h' Q he hW ⟨hA.1, c3, hS'⟩ ho hn
            · rename_i b hres
              rw [hres] at v3
              cases v with
              | none => exact absurd v3 id
              | some w =>
                obtain ⟨y, rfl, g6⟩ := rk_okI v3
                obtain ⟨f1, f2⟩ := xS_new hS' g6
                have hp : r <+: r ++ [y.toInt] := ⟨_, rfl⟩
                exact hr _ _ _ _ _ _ _ _ _ hs M hM _ (r ++ [y.toInt]) cl (.int y :: car.2) h' Q he (xWP_mono hp hW) ⟨xlv_mono hp hA.1, ⟨f2, xsk_mono hp c3⟩, f1⟩ (xopH_mono hp ho) (xenH_mono hp (fun b hb => hb) hn)
            · rename_i l hres
              rw [hres] at v3
              cases v with
              | none => exact absurd v3 id
              | some w =>
                obtain ⟨y, rfl, g6⟩ := rk_okR v3
                exact hr _ _ _ _ _ _ _ _ _ hs M hM _ r cl (.ref y :: car.2) h' Q he hW ⟨hA.1, ⟨g6, c3⟩, hS'⟩ ho hn
        · split at hs
          · cases hs
          · rename_i L' hL'
            refine wp_call hix hq n3 n5 hM' c1 (Q' := fun v h' => rk_wp (D + 1) M (pc + 3) cl (v.toList ++ car.2) h' Q) ?_ (fun v h' hv => hv)
            refine hr _ _ _ _ _ _ _ _ _ hL' M' hM' D r (lv_args 0 car.1) [] h _ (by omega) hW ⟨xlvs_ok c2 0, trivial, hA.2.2⟩ (fun o ho => by cases ho) (fun t ht r' hp => ⟨fun t0 v h' hv hS' => ?_, fun t1 pc' cl' h' hsp => by cases hsp⟩)
            obtain ⟨x, g1, g2⟩ := xall_ok hs ht
            rw [t0] at g1
            exact hr _ _ _ _ _ _ _ _ _ g1 M hM _ r' cl (v.toList ++ car.2) h' Q he (xWP_mono hp hW) ⟨xlv_mono hp hA.1, xsk_app (xrv_list hv) (xsk_mono hp c3), hS'⟩ (xopH_mono hp ho) (xenH_mono hp g2 hn)
theorem xexe_ok (hr : xsnd P h0 W rec) (hct : ∀ q c, rk_find ct q = some c → xCon q c) : xsnd P h0 W (xexe W ct rec) := by
  intro e os sp m pc lv st S L hs M hM D r cl ck h Q he hW hA ho hn
  unfold xexe at hs
  rw [hM] at hs
  dsimp only at hs
  split at hs
  · cases hs
  · rename_i ix hix
    split at hs
    · rename_i q hq
      exact xcal_ok hr hct hs hM he hW hA ho hn hix hq
    · split at hs
      · rename_i v hv
        cases hs
        obtain ⟨w, g1, g2⟩ := xret_ok hA.2.2.1 hv hA.2.1
        exact wp_ret hix g1 ((hn _ List.mem_cons_self r (x_refl r)).1 rfl w h g2 hA.2.2)
      · split at hs
        · cases hs
        · rename_i G hG
          exact xstp_ok hW hG hA hix (xall_wp hr hM he hW ho hn hs)
theorem rk_find_app {α : Type} : ∀ {a b : List (Nat × α)} {k : Nat} {v : α}, rk_find (a ++ b) k = some v → rk_find a k = some v ∨ rk_find b k = some v
  | [], _, _, _, h => Or.inr h
  | p :: a, b, k, v, h => by
    rcases rk_find_cons h with ⟨rfl, rfl⟩ | ⟨h1, h2⟩
    · refine Or.inl ?_
      rw [rk_find, show Nat.beq p.1 p.1 = true from Nat.beq_refl _]
      rfl
    · rcases rk_find_app h2 with g | g
      · refine Or.inl ?_
        rw [rk_find, rk_nbeq (Ne.symm h1)]
        exact g
      · exact Or.inr g
/-- a state at the loop's head -/
def xJ (P : Nat → Nat → Prop) (h0 : rk_S) (r1 : List Int) (p : xP) (lp : xL) (kp : xK) (fs ys : List Int) (cl : rk_L) (h : rk_S) : Prop := xsrs cl h p.1 ys ∧ xIv (ys ++ fs) p.2.2.2.2.1 ∧ xlv r1 lp cl ∧ xkn r1 kp h ∧ rk_Iv rk_Y h ∧ xfr P h0 h
theorem xJ_head {r1 : List Int} {p : xP} {lp : xL} {kp : xK} {fs ys : List Int} {cl : rk_L} {h : rk_S} {S1 : xW} {fx : List xT} (hF : xF r1 S1) (hf : xEs r1 fx fs) (hJ : xJ P h0 r1 p lp kp fs ys cl h) : xEs (r1 ++ ys) ((xhv S1.1 p.1).2.2.2 ++ fx) (ys ++ fs) ∧ ∃ H, xasl ((xhv S1.1 p.1).2.2.2 ++ fx) p.2.2.2.2.1 (S1.1 + p.1.length, (xhv S1.1 p.1).1 ++ S1.2.1, S1.2.2.1, (xhv S1.1 p.1).2.2.1 ++ kp) = some H ∧ xA P h0 (r1 ++ ys) ((xhv S1.1 p.1).2.1 ++ lp) [] H cl [] h := by
  obtain ⟨j1, j2, j3, j4, j5, j6⟩ := hJ
  have hp : r1 <+: r1 ++ ys := ⟨ys, rfl⟩
  obtain ⟨a1, a2, a3, a4⟩ := xhv_ok (r := r1) (n := S1.1) hF.1 hF.2.1.1 j1
  have hE := xEs_app a4 (xEs_mono hp hf)
  refine ⟨hE, ?_⟩
  have hF0 : xF (r1 ++ ys) (S1.1 + p.1.length, (xhv S1.1 p.1).1 ++ S1.2.1, S1.2.2.1, (xhv S1.1 p.1).2.2.1 ++ kp) := by
    refine ⟨by rw [List.length_append, hF.1, xsrs_len j1], ⟨x_pre hp hF.2.1.1, fun i b hb => ?_⟩, fun t ht => ?_⟩
    · rcases rk_find_app hb with hb | hb
      · exact a1 i b hb
      · obtain ⟨x, f1, f2⟩ := hF.2.1.2 i b hb
        exact ⟨x, x_pre hp f1, f2⟩
    · obtain ⟨x, f1, f2⟩ := hF.2.2 t ht
      exact ⟨x, xE_mono hp f1, f2⟩
  obtain ⟨H, g1, g2, g3⟩ := xasl_ok hE hF0 j2
  refine ⟨H, g1, fun k v hk => ?_, trivial, g2, ?_, j5, j6⟩
  · rcases rk_find_app hk with hk | hk
    · exact a2 k v hk
    · exact xlv_mono hp j3 k v hk
  · rw [g3.2]
    intro q hq
    rcases List.mem_append.mp hq with hq | hq
    · exact a3 q hq
    · exact xkn_mono hp j4 q hq
theorem xlop_ok (hr : xsnd P h0 W rec) (hct : ∀ q c, rk_find ct q = some c → xCon q c) {e : Nat} {os : List xOp} {sp : Option Nat} {m pc : Nat} {lv : xL} {st : List xV} {S : xW} {L : List xR} {p : xP} (hs : xlop W ct rec e os sp m pc lv st S p = some L) {M : rk_M} (hM : rk_m m = some M) {D : Nat} {r : List Int} {cl : rk_L} {ck : List Value} {h : rk_S} {Q : Option Value → rk_S → Prop} (he : e ≤ D) (hW : xWP P r W) (hA : xA P h0 r lv st S cl ck h) (ho : xopH P h0 r D M Q os) (hn : xenH P h0 r D M sp Q L) : rk_wp D M pc cl ck h Q := by
  unfold xlop at hs
  split at hs
  · cases hs
  · rw [xsk_nil hA.2.1]
    split at hs
    · cases hs
    · rename_i S1 hS1
      obtain ⟨r1, hp1, hA1⟩ := xmt_ok hS1 hA.2.2
      have hl1 := xlv_mono hp1 hA.1
      split at hs
      · cases hs
      · rename_i fx hfx
        obtain ⟨fs, hfs⟩ := xvls_ok hA1 hl1 hfx
        split at hs
        · cases hs
        · rename_i vs0 harr
          obtain ⟨ys0, y1, y2, y3⟩ := xarr_ok hA1 hl1 hfs harr
          have hlp : xlv r1 (xded (p.2.2.1 ++ xmls p.1) lv) cl := fun k v hk => hl1 k v (xded_ok hk).2
          have hkp : xkn r1 (xdrp S1 p.2.2.2.1) h := fun q hq => hA1.2.1 q (List.mem_filter.mp hq).1
          have hJ0 : xJ P h0 r1 p (xded (p.2.2.1 ++ xmls p.1) lv) (xdrp S1 p.2.2.2.1) fs ys0 cl h := ⟨y2, y3, hlp, hkp, hA1.2.2.1, hA1.2.2.2⟩
          split at hs
          · cases hs
          · rename_i ms hms
            obtain ⟨-, H0, hH0, -⟩ := xJ_head hA1.1 hfs hJ0
            rw [hH0] at hs
            dsimp only at hs
            split at hs
            · cases hs
            · rename_i z hz
              have key : ∀ (N : Nat) (ys : List Int) (cl : rk_L) (h : rk_S), xJ P h0 r1 p (xded (p.2.2.1 ++ xmls p.1) lv) (xdrp S1 p.2.2.2.1) fs ys cl h → ∃ a, xE (1 :: (ys ++ fs)) p.2.2.2.2.2 = some a ∧ z ≤ a ∧ ((a - z).toNat ≤ N → rk_wp D M pc cl [] h Q) := by
                intro N
                induction N using Nat.strongRecOn with
                | ind N ih =>
                  intro ys cl h hJ
                  obtain ⟨hE, H, hH, hAH⟩ := xJ_head hA1.1 hfs hJ
                  rw [hH0] at hH
                  cases hH
                  have hpy : r1 <+: r1 ++ ys := ⟨ys, rfl⟩
                  have hpr := hp1.trans hpy
                  obtain ⟨a, a1, a2⟩ := xsb_ok hAH.2.2.1.2.1.1 hE hms
                  have a3 := xlo_ok hAH.2.2.1.2.1 hz a2
                  refine ⟨a, a1, a3, fun hN => ?_⟩
                  refine xexe_ok hr hct _ _ _ _ _ _ _ _ _ hs M hM D (r1 ++ ys) cl [] h Q he (xWP_mono hpr hW) hAH ?_ (xenH_mono hpr (fun b hb => hb) hn)
                  intro o hom r' lv' st' S' cl' ck' h' hp' hb hA'
                  cases hom with
                  | tail _ hom => exact ho o hom r' lv' st' S' cl' ck' h' (hpr.trans hp') hb hA'
                  | head =>
                    unfold xback at hb
                    split at hb
                    · rw [xsk_nil hA'.2.1]
                      rw [Bool.and_eq_true, Bool.and_eq_true] at hb
                      obtain ⟨b1, b2, b3⟩ := hb
                      dsimp only at b1 b2 b3 ⊢
                      split at b3
                      · rename_i vs hvs
                        split at b3
                        · rename_i ta tb hta htb
                          have hp1' : r1 <+: r' := hpy.trans hp'
                          have hfs' := xEs_mono hp1' hfs
                          obtain ⟨ys2, z1, z2, z3⟩ := xarr_ok hA'.2.2 hA'.1 hfs' hvs
                          have hJ2 : xJ P h0 r1 p (xded (p.2.2.1 ++ xmls p.1) lv) (xdrp S1 p.2.2.2.1) fs ys2 cl' h' := ⟨z2, z3, xbkl_ok hp1' hlp hA'.1 b1, xbkk_ok hp1' hkp hA'.2.2.2.1 b2, hA'.2.2.2.2.1, hA'.2.2.2.2.2⟩
                          have hE' := xEs_mono hp' hE
                          obtain ⟨va, c1, c2⟩ := xsb_ok hA'.2.2.1.2.1.1 hE' hta
                          obtain ⟨vb, c3, c4⟩ := xsb_ok hA'.2.2.1.2.1.1 (xEs_app z1 hfs') htb
                          have c5 := xpr2_ok hA'.2.2.1 b3 (xadc_ok hA'.2.2.1.2.1.1 (xsub_ok c2 c4))
                          cases a1.symm.trans c1
                          by_cases hlt : (vb - z).toNat < N
                          · obtain ⟨a', e1, e2, e3⟩ := ih _ hlt ys2 cl' h' hJ2
                            cases c3.symm.trans e1
                            exact e3 (Nat.le_refl _)
                          · obtain ⟨hE2, H2, hH2, hAH2⟩ := xJ_head hA1.1 hfs hJ2
                            rw [hH0] at hH2
                            cases hH2
                            obtain ⟨a', e1, e2⟩ := xsb_ok hAH2.2.2.1.2.1.1 hE2 hms
                            have e3 := xlo_ok hAH2.2.2.1.2.1 hz e2
                            cases c3.symm.trans e1
                            omega
                        · cases b3
                      · cases b3
                    · cases hb
              obtain ⟨a, e1, -, -⟩ := key 0 ys0 cl h hJ0
              obtain ⟨a', e2, -, hw⟩ := key (a - z).toNat ys0 cl h hJ0
              cases e1.symm.trans e2
              exact hw (Nat.le_refl _)
theorem xrun_ok (hct : ∀ q c, rk_find ct q = some c → xCon q c) : ∀ f, xsnd P h0 W (xrun W ct ls f)
  | 0 => fun e os sp m pc lv st S L hs => by cases hs
  | f + 1 => by
    have ih := xrun_ok hct f
    intro e os sp m pc lv st S L hs M hM D r cl ck h Q he hW hA ho hn
    rw [xrun] at hs
    dsimp only at hs
    split at hs
    · rename_i hsp
      split at hs
      · cases hs
        have e0 := xsk_nil hA.2.1
        subst e0
        exact (hn _ List.mem_cons_self r (x_refl r)).2 Nat.one_ne_zero pc cl h (eq_of_beq hsp) hA
      · cases hs
    · split at hs
      · rename_i o hof
        cases e1 : xback o lv st S with
        | false => rw [e1] at hs; cases hs
        | true =>
          have hom : ∀ {l : List xOp}, xof pc l = some o → o ∈ l ∧ o.1 = pc := by
            intro l
            induction l with
            | nil => intro z; cases z
            | cons b l ihl =>
              intro z
              rw [xof] at z
              cases e2 : Nat.beq b.1 pc with
              | true => rw [e2] at z; cases z; exact ⟨List.mem_cons_self, Nat.eq_of_beq_eq_true e2⟩
              | false => rw [e2] at z; exact ⟨List.mem_cons_of_mem _ (ihl z).1, (ihl z).2⟩
          obtain ⟨m1, m2⟩ := hom hof
          have := ho o m1 r lv st S cl ck h (x_refl r) e1 hA
          rw [m2] at this
          exact this
      · split at hs
        · exact xlop_ok ih hct hs hM he hW hA ho hn
        · exact xexe_ok ih hct _ _ _ _ _ _ _ _ _ hs M hM D r cl ck h Q he hW hA ho hn
end RKR
