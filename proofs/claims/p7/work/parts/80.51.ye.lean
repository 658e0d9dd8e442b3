/-! places that are there -/
def yE (a k : Nat) (h : rk_S) : Prop := ∃ w, rk_get h a k = some w
theorem yE_pt {a k a' k' : Nat} {v : Value} {h : rk_S} : yE a k (rk_pt h a' k' v) ↔ yE a k h := by
  by_cases e : a' ≠ a ∨ k' ≠ k
  · unfold yE
    rw [rk_get_ne e]
  · have e1 : a' = a := Classical.byContradiction (fun z => e (Or.inl z))
    have e2 : k' = k := Classical.byContradiction (fun z => e (Or.inr z))
    subst e1 e2
    constructor
    · rintro ⟨w, hw⟩
      unfold rk_get rk_pt at hw
      unfold yE rk_get
      cases hq : h[a']? with
      | none =>
        rw [hq] at hw
        dsimp only at hw
        rw [hq] at hw
        cases hw
      | some q =>
        rw [hq] at hw
        dsimp only at hw
        have hl : a' < h.length := (List.getElem?_eq_some_iff.mp hq).1
        rw [List.getElem?_set_self hl] at hw
        have hk : k' < (q.2.set k' v).length := (List.getElem?_eq_some_iff.mp hw).1
        rw [List.length_set] at hk
        exact ⟨_, List.getElem?_eq_getElem hk⟩
    · rintro ⟨w, hw⟩
      exact ⟨v, rk_get_self hw⟩
theorem gi_s {a k : Nat} {x : Int32} {h : rk_S} (hx : yE a k h) : gi (rk_pt h a k (.int x)) a k = x := by
  obtain ⟨w, hw⟩ := hx
  exact gi_of (rk_get_self hw)
theorem gr_s {a k x : Nat} {h : rk_S} (hx : yE a k h) : gr (rk_pt h a k (.ref x)) a k = x := by
  obtain ⟨w, hw⟩ := hx
  exact gr_of (rk_get_self hw)
theorem yG.yE {h : rk_S} (hG : yG h) {a k : Nat} (h0 : 0 < a) (h1 : a < 345) (hk : k < yln a) : yE a k h := by
  obtain ⟨q, v, -, -, -, -, hg⟩ := hG.at h0 h1 hk
  exact ⟨v, hg⟩
