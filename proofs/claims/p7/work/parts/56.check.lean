/-! a contract by a symbolic run -/
def xini : Nat → List rk_ST → List xV × List (Nat × xB)
  | _, [] => ([], [])
  | n, .inl b :: ts => (.inl [(n, 1)] :: (xini (n + 1) ts).1, (n, b) :: (xini (n + 1) ts).2)
  | n, .inr l :: ts => (.inr l :: (xini n ts).1, (xini n ts).2)
def xcnt : List rk_ST → Nat
  | [] => 0
  | .inl _ :: ts => xcnt ts + 1
  | .inr _ :: ts => xcnt ts
theorem xini_ok : ∀ {ts : List rk_ST} {av : List Value} {r : List Int} {n : Nat}, r.length = n → xArg ts av → ∃ ys : List Int, ys.length = xcnt ts ∧ xsk (r ++ ys) (xini n ts).1 av ∧ ∀ i b, rk_find (xini n ts).2 i = some b → ∃ x, (r ++ ys)[i]? = some x ∧ xinB x b
  | [], [], r, n, _, _ => by
    refine ⟨[], rfl, trivial, fun i b hh => ?_⟩
    cases hh
  | .inl b :: ts, v :: av, r, n, hn, ha => by
    obtain ⟨y, rfl, g6⟩ := rk_okI ha.1
    obtain ⟨ys, a1, a2, a3⟩ := xini_ok (r := r ++ [y.toInt]) (n := n + 1) (by rw [List.length_append, hn]; rfl) ha.2
    have e0 : (r ++ [y.toInt]) ++ ys = r ++ y.toInt :: ys := by rw [List.append_assoc]; rfl
    have hpre : r ++ [y.toInt] <+: (r ++ [y.toInt]) ++ ys := ⟨ys, rfl⟩
    have hy : (r ++ [y.toInt])[n]? = some y.toInt := by rw [← hn]; exact List.getElem?_concat_length
    rw [e0] at a2 a3 hpre
    have hy' := x_pre hpre hy
    refine ⟨y.toInt :: ys, by rw [List.length_cons, a1]; rfl, ⟨?_, a2⟩, fun i c hh => ?_⟩
    · show xE (r ++ y.toInt :: ys) [(n, 1)] = some y.toInt
      rw [xE_mk (p := (n, 1)) hy' rfl]
      congr 1
      dsimp only
      omega
    · rcases rk_find_cons hh with ⟨rfl, rfl⟩ | ⟨-, hh⟩
      · exact ⟨_, hy', g6⟩
      · exact a3 i c hh
  | .inr l :: ts, v :: av, r, n, hn, ha => by
    obtain ⟨y, rfl, g6⟩ := rk_okR ha.1
    obtain ⟨ys, a1, a2, a3⟩ := xini_ok (r := r) (n := n) hn ha.2
    exact ⟨ys, a1, ⟨g6, a2⟩, a3⟩
  | [], _ :: _, _, _, _, ha => absurd ha id
  | .inl _ :: _, [], _, _, _, ha => absurd ha id
  | .inr _ :: _, [], _, _, _, ha => absurd ha id
def xcnv (w : xD) : xC := w.map (fun c => (c.1, (xcst c.2.1, xcst c.2.2)))
theorem xcnv_ok {w : xD} {r : List Int} (h1 : r[0]? = some 1) : xWP (xCov w) r (xcnv w) := by
  intro v hv
  obtain ⟨c, hc, rfl⟩ := List.mem_map.mp hv
  exact ⟨_, _, xcst_ok h1 _, xcst_ok h1 _, fun b k q1 q2 q3 q4 => ⟨c, hc, q1, q2, q3, q4⟩⟩
def xrsk (S : xW) (v : Option xV) (t : Option rk_ST) : Bool := match v, t with
  | none, none => true
  | some v, some t => xagk S [t] [v]
  | _, _ => false
theorem xrsk_ok {r : List Int} {S : xW} (hF : xF r S) {v : Option xV} {t : Option rk_ST} {w : Option Value} (h : xrsk S v t = true) (hw : xrv r v w) : xRes t w := by
  unfold xrsk at h
  split at h
  · cases w with
    | none => trivial
    | some w => exact absurd hw id
  · cases w with
    | none => exact absurd hw id
    | some w => exact (xagk_ok hF h (cv := [w]) ⟨hw, trivial⟩).1
  · cases h
def xend (t : Option rk_ST) (o : Option (List xR)) : Bool := match o with
  | some L => L.all (fun x => Nat.beq x.1 0 && xrsk x.2.2.2 x.2.1 t)
  | none => false
def xchk (ct : List (Nat × xCt)) (ls : xLs) (f m : Nat) (c : xCt) : Bool := xend c.2.2.2 (xrun (xcnv c.2.2.1) ct ls f c.1 [] none m 0 (xlvs 0 (xini 1 c.2.1).1) [] (xcnt c.2.1 + 1, (xini 1 c.2.1).2, [], []))
theorem xchk_ok {ct : List (Nat × xCt)} {ls : xLs} {f m : Nat} {c : xCt} {M : rk_M} (hct : ∀ q c, rk_find ct q = some c → xCon q c) (hM : rk_m m = some M) (h : xchk ct ls f m c = true) : xCon m c := by
  refine ⟨M, hM, fun D av h' hD hI ha => ?_⟩
  unfold xchk xend at h
  split at h
  · rename_i L hL
    obtain ⟨ys, a1, a2, a3⟩ := xini_ok (r := [1]) (n := 1) rfl ha
    refine xrun_ok (P := xCov c.2.2.1) (h0 := h') hct f _ _ _ _ _ _ _ _ _ hL M hM D ([1] ++ ys) _ [] h' _ hD (xcnv_ok rfl) ⟨xlvs_ok a2 0, trivial, ⟨⟨?_, ⟨rfl, a3⟩, fun t ht => absurd ht List.not_mem_nil⟩, fun p hp => absurd hp List.not_mem_nil, hI, fun b k _ => rfl⟩⟩ (fun o ho => absurd ho List.not_mem_nil) ?_
    · rw [List.length_append, a1, Nat.add_comm]
      rfl
    · intro t ht r' hp
      have q := List.all_eq_true.mp h t ht
      rw [Bool.and_eq_true] at q
      refine ⟨fun _ v g hv hS => ⟨hS.2.2.1, hS.2.2.2, xrsk_ok hS.1 q.2 hv⟩, fun z => absurd (Nat.eq_of_beq_eq_true q.1) z⟩
  · cases h
/-- one of some receivers: each by itself -/
theorem xCon_split {m e : Nat} {l : List Nat} {ts : List rk_ST} {w : xD} {t : Option rk_ST} {M : rk_M} (hM : rk_m m = some M) (h : ∀ a ∈ l, xCon m (e, .inr [a] :: ts, w, t)) : xCon m (e, .inr l :: ts, w, t) := by
  refine ⟨M, hM, fun D av h' hD hI ha => ?_⟩
  cases av with
  | nil => exact absurd ha id
  | cons v av =>
    obtain ⟨y, rfl, g6⟩ := rk_okR ha.1
    obtain ⟨M', k1, k2⟩ := h y g6
    cases hM.symm.trans k1
    exact k2 D _ h' hD hI ⟨List.mem_cons_self, ha.2⟩
def xcks (ct : List (Nat × xCt)) (ls : xLs) (f m e : Nat) (l : List Nat) (ts : List rk_ST) (w : xD) (t : Option rk_ST) : Bool := l.all (fun a => xchk ct ls f m (e, .inr [a] :: ts, w, t))
theorem xcks_ok {ct : List (Nat × xCt)} {ls : xLs} {f m e : Nat} {l : List Nat} {ts : List rk_ST} {w : xD} {t : Option rk_ST} {M : rk_M} (hct : ∀ q c, rk_find ct q = some c → xCon q c) (hM : rk_m m = some M) (h : xcks ct ls f m e l ts w t = true) : xCon m (e, .inr l :: ts, w, t) := xCon_split hM (fun a ha => xchk_ok hct hM (List.all_eq_true.mp h a ha))
theorem x_nil : ∀ q c, rk_find ([] : List (Nat × xCt)) q = some c → xCon q c := fun q c h => by cases h
theorem x_cons {ct : List (Nat × xCt)} {m : Nat} {c : xCt} (h1 : xCon m c) (h2 : ∀ q c, rk_find ct q = some c → xCon q c) : ∀ q d, rk_find ((m, c) :: ct) q = some d → xCon q d := by
  intro q d h
  rcases rk_find_cons h with ⟨rfl, rfl⟩ | ⟨-, h⟩
  · exact h1
  · exact h2 q d h
/-- all Frames, all Keepsakes, both of each -/
def x_fs : List Nat := [120, 123, 126, 129, 132, 135, 138, 141, 144, 147, 150, 153, 258, 261, 264, 267, 270, 273, 276, 279, 282, 285, 288, 291]
def x_any : rk_ST := .inl xany
def x_AW : xD := [((18, 293), (-1, 10000))]
