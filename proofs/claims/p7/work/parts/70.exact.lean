/-! exact runs: arguments and known places as unknowns -/
def xiv : List Value → List Int
  | [] => []
  | .int x :: r => x.toInt :: xiv r
  | _ :: r => xiv r
theorem xini_ok2 : ∀ {ts : List rk_ST} {av : List Value} {r : List Int} {n : Nat}, r.length = n → xArg ts av → (xiv av).length = xcnt ts ∧ xsk (r ++ xiv av) (xini n ts).1 av ∧ ∀ i b, rk_find (xini n ts).2 i = some b → ∃ x, (r ++ xiv av)[i]? = some x ∧ xinB x b
  | [], [], r, n, _, _ => by
    refine ⟨rfl, trivial, fun i b hh => ?_⟩
    cases hh
  | .inl b :: ts, v :: av, r, n, hn, ha => by
    obtain ⟨y, rfl, g6⟩ := rk_okI ha.1
    obtain ⟨a1, a2, a3⟩ := xini_ok2 (r := r ++ [y.toInt]) (n := n + 1) (by rw [List.length_append, hn]; rfl) ha.2
    have e0 : (r ++ [y.toInt]) ++ xiv av = r ++ y.toInt :: xiv av := by rw [List.append_assoc]; rfl
    have hpre : r ++ [y.toInt] <+: (r ++ [y.toInt]) ++ xiv av := ⟨xiv av, rfl⟩
    have hy : (r ++ [y.toInt])[n]? = some y.toInt := by rw [← hn]; exact List.getElem?_concat_length
    rw [e0] at a2 a3 hpre
    have hy' := x_pre hpre hy
    refine ⟨by rw [xiv, List.length_cons, a1]; rfl, ⟨?_, a2⟩, fun i c hh => ?_⟩
    · show xE (r ++ y.toInt :: xiv av) [(n, 1)] = some y.toInt
      rw [xE_mk (p := (n, 1)) hy' rfl]
      congr 1
      dsimp only
      omega
    · rcases rk_find_cons hh with ⟨rfl, rfl⟩ | ⟨-, hh⟩
      · exact ⟨_, hy', g6⟩
      · exact a3 i c hh
  | .inr l :: ts, v :: av, r, n, hn, ha => by
    obtain ⟨y, rfl, g6⟩ := rk_okR ha.1
    obtain ⟨a1, a2, a3⟩ := xini_ok2 (r := r) (n := n) hn ha.2
    exact ⟨a1, ⟨g6, a2⟩, a3⟩
  | [], _ :: _, _, _, _, ha => absurd ha id
  | .inl _ :: _, [], _, _, _, ha => absurd ha id
  | .inr _ :: _, [], _, _, _, ha => absurd ha id
/-- places that are unknowns of a run -/
def xpl (ps : List ((Nat × Nat) × xB)) : List (xSr × xB) := ps.map (fun p => (.inr p.1, p.2))
def xplv (h : rk_S) (ps : List ((Nat × Nat) × xB)) : List Int := ps.map (fun p => rk_iv h p.1.1 p.1.2)
def xplk (ps : List ((Nat × Nat) × xB)) : Bool := ps.all (fun p => x_fok p.1.1 p.1.2 p.2)
theorem xpl_ok {h : rk_S} {cl : rk_L} (hI : rk_Iv rk_Y h) : ∀ {ps : List ((Nat × Nat) × xB)}, xplk ps = true → xsrs cl h (xpl ps) (xplv h ps)
  | [], _ => trivial
  | p :: ps, hk => by
    unfold xplk at hk
    rw [List.all_cons, Bool.and_eq_true] at hk
    obtain ⟨x, g1, g2, g3⟩ := x_fok_ok hI hk.1
    exact ⟨⟨x, g1, g3.symm⟩, by rw [← g3] at g2; exact g2, xpl_ok hI hk.2⟩
def xS0 (ts : List rk_ST) (ps : List ((Nat × Nat) × xB)) : xW := (xcnt ts + 1 + ps.length, (xini 1 ts).2 ++ (xhv (xcnt ts + 1) (xpl ps)).1, [], (xhv (xcnt ts + 1) (xpl ps)).2.2.1)
def xexa (w : xD) (ct : List (Nat × xCt)) (ls : xLs) (f e m : Nat) (ts : List rk_ST) (ps : List ((Nat × Nat) × xB)) (al : List (List xFc)) : Bool := xplk ps && xenA (xcnt ts + ps.length) al (xrun (xcnv w) ct ls f e [] none m 0 (xlvs 0 (xini 1 ts).1) [] (xS0 ts ps))
theorem xexa_ok {w : xD} {ct : List (Nat × xCt)} {ls : xLs} {f e m : Nat} {ts : List rk_ST} {ps : List ((Nat × Nat) × xB)} {al : List (List xFc)} {M : rk_M} {D : Nat} {av : List Value} {h : rk_S} (hs : xexa w ct ls f e m ts ps al = true) (hct : ∀ q c, rk_find ct q = some c → xCon q c) (hM : rk_m m = some M) (hD : e ≤ D) (hI : rk_Iv rk_Y h) (ha : xArg ts av) : rk_wp D M 0 (lv_args 0 av) [] h (fun v h' => rk_Iv rk_Y h' ∧ (∀ b k, ¬ xCov w b k → rk_get h' b k = rk_get h b k) ∧ xHA (xiv av ++ xplv h ps) h' v al) := by
  unfold xexa at hs
  rw [Bool.and_eq_true] at hs
  obtain ⟨a1, a2, a3⟩ := xini_ok2 (r := [1]) (n := 1) rfl ha
  have e1 : (1 :: xiv av).length = xcnt ts + 1 := by rw [List.length_cons, a1]
  obtain ⟨b1, b2, b3, b4⟩ := xhv_ok (r := 1 :: xiv av) (n := xcnt ts + 1) (cl := []) e1 rfl (xpl_ok hI hs.1)
  have hp : 1 :: xiv av <+: 1 :: (xiv av ++ xplv h ps) := ⟨xplv h ps, rfl⟩
  refine xrunA_ok (P := xCov w) (h0 := h) (rt := xiv av ++ xplv h ps) hct hs.2 hM hD (xcnv_ok rfl) ⟨xlvs_ok (xsk_mono hp a2) 0, trivial, ⟨⟨?_, ⟨rfl, fun i b hb => ?_⟩, fun t ht => absurd ht List.not_mem_nil⟩, b3, hI, fun b k _ => rfl⟩⟩ ?_
  · show (1 :: (xiv av ++ xplv h ps)).length = xcnt ts + 1 + ps.length
    rw [List.length_cons, List.length_append, a1]
    unfold xplv
    rw [List.length_map]
    omega
  · rcases rk_find_app hb with hb | hb
    · obtain ⟨x, f1, f2⟩ := a3 i b hb
      exact ⟨x, x_pre hp f1, f2⟩
    · exact b1 i b hb
  · rw [List.length_append, a1]
    unfold xplv
    rw [List.length_map]
/-- a fact of one place and the answer alone -/
theorem x_fv {rt : List Int} {h : rk_S} {w : Option Value} {t : xT} (hh : xHold rt h w ([none], t)) : ∃ x : Int32, w = some (.int x) ∧ ∃ z, xE (1 :: (rt ++ [x.toInt])) t = some z ∧ 0 ≤ z := by
  obtain ⟨ys, h1, z, h2, h3⟩ := hh
  cases ys with
  | nil => exact absurd h1 id
  | cons y ys =>
    cases ys with
    | cons _ _ => exact absurd h1.2 id
    | nil =>
      obtain ⟨x, g1, g3⟩ := h1.1
      exact ⟨x, g1, z, by rw [g3]; exact h2, h3⟩
/-! runs keep the number of cells, and what kind each is -/
theorem x_kept {D : Nat} {M : rk_M} {pc : Nat} {lv : rk_L} {st : List Value} {h : rk_S} {Q : Option Value → rk_S → Prop} (hM : M ∈ rk_Ms) (hn : ¬ M.1.name = "<init>") (hw : rk_wp D M pc lv st h Q) : rk_wp D M pc lv st h (fun v h' => Q v h' ∧ h'.length = h.length ∧ rk_sz h' = rk_sz h ∧ rk_kk h h') := by
  obtain ⟨o, ⟨n, hn'⟩, hq⟩ := hw
  obtain ⟨k1, k2⟩ := rk_ex_keep n D M pc lv st h o hM hn hn'
  exact ⟨o, ⟨n, hn'⟩, hq, k1, k2, rk_ex_kind n D M pc lv st h o hn'⟩
theorem x_scr {h h' : rk_S} {vs : List Value} (h0 : h[0]? = some (14, vs)) (hk : rk_kk h h') (hg : ∀ k, rk_get h' 0 k = rk_get h 0 k) : h'[0]? = some (14, vs) := by
  obtain ⟨q, h1, h2⟩ := hk 0 _ h0
  rw [h1]
  have : q.2 = vs := by
    refine List.ext_getElem? (fun k => ?_)
    have := hg k
    unfold rk_get at this
    rw [h0, h1] at this
    exact this
  rw [← this, show (14 : Nat) = q.1 from h2.symm]
