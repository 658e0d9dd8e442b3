/-! what the typing says of places, for cells out of a list and terms as places -/
def xty (a : Nat) : Option (Nat × Nat × List rk_ST) := match rk_Tl[a]? with
  | some q => bif Nat.beq q.1 20 then none else some q
  | none => none
theorem xty_Y {a : Nat} {q : Nat × Nat × List rk_ST} (h : xty a = some q) : rk_Y a = some (q.1, q.2.1, rk_slot q.2.2) := by
  unfold xty at h
  unfold rk_Y
  cases hq : rk_Tl[a]? with
  | none => rw [hq] at h; cases h
  | some p =>
    rw [hq] at h
    dsimp only at h ⊢
    cases e : Nat.beq p.1 20 with
    | true => rw [e] at h; cases h
    | false => rw [e] at h; cases h; rfl
def xmem (c : Int × Int) : xB → Bool
  | [] => false
  | d :: b => (zeq c.1 d.1 && zeq c.2 d.2) || xmem c b
def xapp : xB → xB → xB
  | [], b => b
  | c :: a, b => bif xmem c b then xapp a b else c :: xapp a b
theorem xmem_ok {c : Int × Int} : ∀ {b : xB}, xmem c b = true → c ∈ b
  | [], h => by cases h
  | d :: b, h => by
    rw [xmem, Bool.or_eq_true, Bool.and_eq_true] at h
    rcases h with ⟨h1, h2⟩ | h
    · have : c = d := Prod.ext (zeq_ok h1) (zeq_ok h2)
      rw [this]
      exact List.mem_cons_self
    · exact List.mem_cons_of_mem _ (xmem_ok h)
theorem xapp_r {x : Int} : ∀ {a b : xB}, xinB x b → xinB x (xapp a b)
  | [], b, h => h
  | c :: a, b, h => by
    rw [xapp]
    cases xmem c b with
    | true => exact xapp_r h
    | false =>
      obtain ⟨d, h1, h2⟩ := xapp_r (a := a) h
      exact ⟨d, List.mem_cons_of_mem _ h1, h2⟩
theorem xapp_l {x : Int} : ∀ {a b : xB}, xinB x a → xinB x (xapp a b)
  | [], b, h => by obtain ⟨c, hc, -⟩ := h; cases hc
  | c :: a, b, ⟨d, hd, h1⟩ => by
    rw [xapp]
    cases e : xmem c b with
    | true =>
      cases hd with
      | head => exact xapp_r ⟨c, xmem_ok e, h1⟩
      | tail _ hd => exact xapp_l ⟨d, hd, h1⟩
    | false =>
      cases hd with
      | head => exact ⟨c, List.mem_cons_self, h1⟩
      | tail _ hd =>
        obtain ⟨e, g1, g2⟩ := xapp_l (a := a) (b := b) ⟨d, hd, h1⟩
        exact ⟨e, List.mem_cons_of_mem _ g1, g2⟩
def xfI (k0 k : Nat) : List Nat → Option xB
  | [] => some []
  | a :: l => match xty a, xfI k0 k l with
    | some q, some b => bif Nat.beq q.1 k0 && Nat.blt k q.2.1 then (match rk_slot q.2.2 k with
      | .inl c => some (xapp c b)
      | .inr _ => none) else none
    | _, _ => none
def xfR (k0 k : Nat) : List Nat → Option (List Nat)
  | [] => some []
  | a :: l => match xty a, xfR k0 k l with
    | some q, some b => bif Nat.beq q.1 k0 && Nat.blt k q.2.1 then (match rk_slot q.2.2 k with
      | .inl _ => none
      | .inr c => some (c ++ b)) else none
    | _, _ => none
section RKY
variable {P : Nat → Nat → Prop} {h0 h : rk_S} {r : List Int} {S : xW}
theorem xfI_ok (hI : rk_Iv rk_Y h) {k0 k a : Nat} : ∀ {l : List Nat} {b : xB}, xfI k0 k l = some b → a ∈ l → ∃ vs y, h[a]? = some (k0, vs) ∧ rk_get h a k = some (.int y) ∧ xinB y.toInt b
  | [], _, _, hm => by cases hm
  | a' :: l, b, hb, hm => by
    rw [xfI] at hb
    split at hb
    · rename_i q b' hq hb'
      cases e : Nat.beq q.1 k0 && Nat.blt k q.2.1 with
      | false => rw [e] at hb; cases hb
      | true =>
        rw [e] at hb
        dsimp only [cond] at hb
        rw [Bool.and_eq_true, rk_beq, Nat.blt_eq] at e
        split at hb
        · rename_i c hc
          cases hb
          cases hm with
          | head =>
            obtain ⟨v, vs, g1, g2, g3, g4, g5⟩ := hI.get (xty_Y hq) e.2
            dsimp only at g5 g1
            rw [hc] at g5
            obtain ⟨y, rfl, g6⟩ := rk_okI g5
            rw [e.1] at g1
            exact ⟨vs, y, g1, g4, xapp_l g6⟩
          | tail _ hm =>
            obtain ⟨vs, y, g1, g2, g3⟩ := xfI_ok hI hb' hm
            exact ⟨vs, y, g1, g2, xapp_r g3⟩
        · cases hb
    · cases hb
theorem xfR_ok (hI : rk_Iv rk_Y h) {k0 k a : Nat} : ∀ {l b : List Nat}, xfR k0 k l = some b → a ∈ l → ∃ vs c, h[a]? = some (k0, vs) ∧ rk_get h a k = some (.ref c) ∧ c ∈ b
  | [], _, _, hm => by cases hm
  | a' :: l, b, hb, hm => by
    rw [xfR] at hb
    split at hb
    · rename_i q b' hq hb'
      cases e : Nat.beq q.1 k0 && Nat.blt k q.2.1 with
      | false => rw [e] at hb; cases hb
      | true =>
        rw [e] at hb
        dsimp only [cond] at hb
        rw [Bool.and_eq_true, rk_beq, Nat.blt_eq] at e
        split at hb
        · cases hb
        · rename_i c hc
          cases hb
          cases hm with
          | head =>
            obtain ⟨v, vs, g1, g2, g3, g4, g5⟩ := hI.get (xty_Y hq) e.2
            dsimp only at g5 g1
            rw [hc] at g5
            obtain ⟨y, rfl, g6⟩ := rk_okR g5
            rw [e.1] at g1
            exact ⟨vs, y, g1, g4, List.mem_append_left _ g6⟩
          | tail _ hm =>
            obtain ⟨vs, y, g1, g2, g3⟩ := xfR_ok hI hb' hm
            exact ⟨vs, y, g1, g2, List.mem_append_right _ g3⟩
    · cases hb
/-- whether a term may come to j -/
def xposs (ev : List (Nat × xB)) (i : xT) (j : Nat) : Bool := (match xlo ev i with
  | some z => zle z (Int.ofNat j)
  | none => true) && ((match xlo ev (xscl (-1) i) with
  | some z => zle z (-(Int.ofNat j))
  | none => true) && (match i with
  | [p] => zeq (Int.ofNat j % p.2) 0
  | [q, p] => !Nat.beq q.1 0 || zeq ((Int.ofNat j - q.2) % p.2) 0
  | _ => true))
theorem zeq_of {a b : Int} (h : a = b) : zeq a b = true := by
  subst h
  cases a <;> exact Nat.beq_refl _
theorem xposs_ok {ev : List (Nat × xB)} (hE : xev r ev) {i : xT} {j : Nat} (hi : xE r i = some (j : Int)) : xposs ev i j = true := by
  unfold xposs
  rw [Bool.and_eq_true, Bool.and_eq_true]
  refine ⟨?_, ?_, ?_⟩
  · split
    · rename_i z hz
      exact zle_of (xlo_ok hE hz hi)
    · rfl
  · split
    · rename_i z hz
      have := xlo_ok hE hz (xscl_ok hi)
      exact zle_of (by simp only [Int.ofNat_eq_natCast]; omega)
    · rfl
  · split
    · rename_i p
      obtain ⟨x, y, h1, h2, h3⟩ := xE_cons hi
      cases h2
      refine zeq_of ?_
      simp only [Int.ofNat_eq_natCast]
      rw [h3, Int.add_zero, Int.mul_emod_right]
    · rename_i q p
      obtain ⟨x, y, h1, h2, h3⟩ := xE_cons hi
      obtain ⟨x', y', g1, g2, g3⟩ := xE_cons h2
      cases g2
      rw [Bool.or_eq_true]
      cases e : Nat.beq q.1 0 with
      | false => exact Or.inl rfl
      | true =>
        refine Or.inr (zeq_of ?_)
        rw [Nat.eq_of_beq_eq_true e] at h1
        cases h1.symm.trans hE.1
        simp only [Int.ofNat_eq_natCast]
        rw [h3, g3, show q.2 * 1 + (p.2 * x' + 0) - q.2 = p.2 * x' by omega, Int.mul_emod_right]
    · rfl
def xunI (f : Nat → Bool) : Nat → List rk_ST → Option xB
  | _, [] => some []
  | j, t :: ts => match xunI f (j + 1) ts with
    | none => none
    | some b => bif f j then (match t with
      | .inl c => some (xapp c b)
      | .inr _ => none) else some b
theorem xunI_ok {f : Nat → Bool} {t : rk_ST} : ∀ {ts : List rk_ST} {j k : Nat} {b : xB}, xunI f j ts = some b → ts[k]? = some t → f (j + k) = true → ∃ c, t = .inl c ∧ ∀ x, xinB x c → xinB x b
  | [], _, _, _, _, hk, _ => by cases hk
  | u :: ts, j, k, b, hb, hk, hf => by
    rw [xunI] at hb
    split at hb
    · cases hb
    · rename_i b' hb'
      cases k with
      | zero =>
        cases hk
        rw [show j + 0 = j from rfl] at hf
        rw [hf] at hb
        dsimp only [cond] at hb
        split at hb
        · rename_i c
          cases hb
          exact ⟨c, rfl, fun x hx => xapp_l hx⟩
        · cases hb
      | succ k =>
        obtain ⟨c, h1, h2⟩ := xunI_ok hb' hk (by rw [← hf]; congr 1; omega)
        refine ⟨c, h1, fun x hx => ?_⟩
        cases e : f j with
        | false => rw [e] at hb; cases hb; exact h2 x hx
        | true =>
          rw [e] at hb
          dsimp only [cond] at hb
          split at hb
          · cases hb; exact xapp_r (h2 x hx)
          · cases hb
def xunR (f : Nat → Bool) : Nat → List rk_ST → Option (List Nat)
  | _, [] => some []
  | j, t :: ts => match xunR f (j + 1) ts with
    | none => none
    | some b => bif f j then (match t with
      | .inl _ => none
      | .inr c => some (c ++ b)) else some b
theorem xunR_ok {f : Nat → Bool} {t : rk_ST} : ∀ {ts : List rk_ST} {j k : Nat} {b : List Nat}, xunR f j ts = some b → ts[k]? = some t → f (j + k) = true → ∃ c, t = .inr c ∧ ∀ x, x ∈ c → x ∈ b
  | [], _, _, _, _, hk, _ => by cases hk
  | u :: ts, j, k, b, hb, hk, hf => by
    rw [xunR] at hb
    split at hb
    · cases hb
    · rename_i b' hb'
      cases k with
      | zero =>
        cases hk
        rw [show j + 0 = j from rfl] at hf
        rw [hf] at hb
        dsimp only [cond] at hb
        split at hb
        · cases hb
        · rename_i c
          cases hb
          exact ⟨c, rfl, fun x hx => List.mem_append_left _ hx⟩
      | succ k =>
        obtain ⟨c, h1, h2⟩ := xunR_ok hb' hk (by rw [← hf]; congr 1; omega)
        refine ⟨c, h1, fun x hx => ?_⟩
        cases e : f j with
        | false => rw [e] at hb; cases hb; exact h2 x hx
        | true =>
          rw [e] at hb
          dsimp only [cond] at hb
          split at hb
          · cases hb
          · cases hb; exact List.mem_append_right _ (h2 x hx)
def xelI (ev : List (Nat × xB)) (ts : List rk_ST) (i : xT) : Option xB := match ts with
  | [t] => (match t with
    | .inl b => some b
    | .inr _ => none)
  | _ => xunI (xposs ev i) 0 ts
def xelR (ev : List (Nat × xB)) (ts : List rk_ST) (i : xT) : Option (List Nat) := match ts with
  | [t] => (match t with
    | .inl _ => none
    | .inr b => some b)
  | _ => xunR (xposs ev i) 0 ts
theorem rk_slot_ne {ts : List rk_ST} (h : ∀ t, ts ≠ [t]) (k : Nat) : rk_slot ts k = ts.getD k (.inl []) := by
  unfold rk_slot
  split
  · exact absurd rfl (h _)
  · rfl
theorem xelI_ok {ev : List (Nat × xB)} (hE : xev r ev) {ts : List rk_ST} {i : xT} {b : xB} {k : Nat} {v : Value} (hb : xelI ev ts i = some b) (hi : xE r i = some (k : Int)) (hv : rk_okv (rk_slot ts k) v) : ∃ y, v = .int y ∧ xinB y.toInt b := by
  unfold xelI at hb
  split at hb
  · rename_i t
    split at hb
    · cases hb; exact rk_okI hv
    · cases hb
  · rename_i hne
    rw [rk_slot_ne (fun t e => hne t e), List.getD_eq_getElem?_getD] at hv
    cases hk : ts[k]? with
    | none =>
      rw [hk] at hv
      obtain ⟨y, -, c, hc, -⟩ := rk_okI hv
      cases hc
    | some t =>
      rw [hk] at hv
      obtain ⟨c, rfl, h2⟩ := xunI_ok hb hk (by rw [Nat.zero_add]; exact xposs_ok hE hi)
      obtain ⟨y, rfl, h3⟩ := rk_okI hv
      exact ⟨y, rfl, h2 _ h3⟩
theorem xelR_ok {ev : List (Nat × xB)} (hE : xev r ev) {ts : List rk_ST} {i : xT} {b : List Nat} {k : Nat} {v : Value} (hb : xelR ev ts i = some b) (hi : xE r i = some (k : Int)) (hv : rk_okv (rk_slot ts k) v) : ∃ y, v = .ref y ∧ y ∈ b := by
  unfold xelR at hb
  split at hb
  · rename_i t
    split at hb
    · cases hb
    · cases hb; exact rk_okR hv
  · rename_i hne
    rw [rk_slot_ne (fun t e => hne t e), List.getD_eq_getElem?_getD] at hv
    cases hk : ts[k]? with
    | none =>
      rw [hk] at hv
      obtain ⟨y, -, c, hc, -⟩ := rk_okI hv
      cases hc
    | some t =>
      rw [hk] at hv
      obtain ⟨c, rfl, h2⟩ := xunR_ok hb hk (by rw [Nat.zero_add]; exact xposs_ok hE hi)
      obtain ⟨y, rfl, h3⟩ := rk_okR hv
      exact ⟨y, rfl, h2 _ h3⟩
/-- within an array -/
def xinb (S : xW) (i : xT) (n : Nat) : Bool := xpr S i && xpr S (xadc (Int.ofNat n - 1) (xscl (-1) i))
theorem xinb_ok (hF : xF r S) {i : xT} {n : Nat} {j : Int} (h : xinb S i n = true) (hi : xE r i = some j) : 0 ≤ j ∧ j < n := by
  unfold xinb at h
  rw [Bool.and_eq_true] at h
  have q1 := xpr_ok hF h.1 hi
  have q2 := xpr_ok hF h.2 (xadc_ok hF.2.1.1 (xscl_ok hi))
  simp only [Int.ofNat_eq_natCast] at q2
  omega
def xaI (S : xW) (kd : Nat) (i : xT) : List Nat → Option xB
  | [] => some []
  | a :: l => match xty a, xaI S kd i l with
    | some q, some b => bif Nat.beq q.1 kd && xinb S i q.2.1 then (match xelI S.2.1 q.2.2 i with
      | some c => some (xapp c b)
      | none => none) else none
    | _, _ => none
def xaR (S : xW) (i : xT) : List Nat → Option (List Nat)
  | [] => some []
  | a :: l => match xty a, xaR S i l with
    | some q, some b => bif (Nat.beq q.1 11 || (Nat.beq q.1 12 || Nat.beq q.1 13)) && xinb S i q.2.1 then (match xelR S.2.1 q.2.2 i with
      | some c => some (c ++ b)
      | none => none) else none
    | _, _ => none
theorem xaI_ok (hF : xF r S) (hI : rk_Iv rk_Y h) {kd a : Nat} {i : xT} {j : Int32} (hi : xE r i = some j.toInt) : ∀ {l : List Nat} {b : xB}, xaI S kd i l = some b → a ∈ l → ∃ vs y, h[a]? = some (kd, vs) ∧ 0 ≤ j.toInt ∧ rk_get h a j.toNatClampNeg = some (.int y) ∧ xinB y.toInt b
  | [], _, _, hm => by cases hm
  | a' :: l, b, hb, hm => by
    rw [xaI] at hb
    split at hb
    · rename_i q b' hq hb'
      cases e : Nat.beq q.1 kd && xinb S i q.2.1 with
      | false => rw [e] at hb; cases hb
      | true =>
        rw [e] at hb
        dsimp only [cond] at hb
        rw [Bool.and_eq_true, rk_beq] at e
        split at hb
        · rename_i c hc
          cases hb
          obtain ⟨q1, q2⟩ := xinb_ok hF e.2 hi
          have qc := rk_clamp q1
          cases hm with
          | head =>
            obtain ⟨v, vs, g1, g2, g3, g4, g5⟩ := hI.get (k := j.toNatClampNeg) (xty_Y hq) (by dsimp only; omega)
            dsimp only at g5 g1
            obtain ⟨y, rfl, g6⟩ := xelI_ok hF.2.1 hc (by rw [qc]; exact hi) g5
            rw [e.1] at g1
            exact ⟨vs, y, g1, q1, g4, xapp_l g6⟩
          | tail _ hm =>
            obtain ⟨vs, y, g1, g2, g3, g4⟩ := xaI_ok hF hI hi hb' hm
            exact ⟨vs, y, g1, g2, g3, xapp_r g4⟩
        · cases hb
    · cases hb
theorem xaR_ok (hF : xF r S) (hI : rk_Iv rk_Y h) {a : Nat} {i : xT} {j : Int32} (hi : xE r i = some j.toInt) : ∀ {l b : List Nat}, xaR S i l = some b → a ∈ l → ∃ kd vs y, h[a]? = some (kd, vs) ∧ (kd = 11 ∨ kd = 12 ∨ kd = 13) ∧ 0 ≤ j.toInt ∧ rk_get h a j.toNatClampNeg = some (.ref y) ∧ y ∈ b
  | [], _, _, hm => by cases hm
  | a' :: l, b, hb, hm => by
    rw [xaR] at hb
    split at hb
    · rename_i q b' hq hb'
      cases e : (Nat.beq q.1 11 || (Nat.beq q.1 12 || Nat.beq q.1 13)) && xinb S i q.2.1 with
      | false => rw [e] at hb; cases hb
      | true =>
        rw [e] at hb
        dsimp only [cond] at hb
        rw [Bool.and_eq_true, Bool.or_eq_true, Bool.or_eq_true, rk_beq, rk_beq, rk_beq] at e
        split at hb
        · rename_i c hc
          cases hb
          obtain ⟨q1, q2⟩ := xinb_ok hF e.2 hi
          have qc := rk_clamp q1
          cases hm with
          | head =>
            obtain ⟨v, vs, g1, g2, g3, g4, g5⟩ := hI.get (k := j.toNatClampNeg) (xty_Y hq) (by dsimp only; omega)
            dsimp only at g5 g1
            obtain ⟨y, rfl, g6⟩ := xelR_ok hF.2.1 hc (by rw [qc]; exact hi) g5
            exact ⟨q.1, vs, y, g1, e.1, q1, g4, List.mem_append_left _ g6⟩
          | tail _ hm =>
            obtain ⟨kd, vs, y, g1, g2, g3, g4, g5⟩ := xaR_ok hF hI hi hb' hm
            exact ⟨kd, vs, y, g1, g2, g3, g4, List.mem_append_right _ g5⟩
        · cases hb
    · cases hb
/-! known places -/
def xteq : xT → xT → Bool
  | [], [] => true
  | p :: s, q :: t => Nat.beq p.1 q.1 && (zeq p.2 q.2 && xteq s t)
  | _, _ => false
theorem xteq_ok : ∀ {s t : xT}, xteq s t = true → s = t
  | [], [], _ => rfl
  | p :: s, q :: t, h => by
    rw [xteq, Bool.and_eq_true, Bool.and_eq_true, rk_beq] at h
    rw [xteq_ok h.2.2, show p = q from Prod.ext h.1 (zeq_ok h.2.1)]
  | [], _ :: _, h => by cases h
  | _ :: _, [], h => by cases h
def xkl (a : Nat) (i : xT) : xK → Option xT
  | [] => none
  | p :: kn => bif Nat.beq p.1.1 a && xteq p.1.2 i then some p.2 else xkl a i kn
theorem xkl_ok {a : Nat} {i t : xT} : ∀ {kn : xK}, xkl a i kn = some t → ((a, i), t) ∈ kn
  | [], h => by cases h
  | p :: kn, h => by
    rw [xkl] at h
    cases e : Nat.beq p.1.1 a && xteq p.1.2 i with
    | true =>
      rw [e] at h
      cases h
      rw [Bool.and_eq_true, rk_beq] at e
      have : p = ((a, i), p.2) := Prod.ext (Prod.ext e.1 (xteq_ok e.2)) rfl
      rw [← this]
      exact List.mem_cons_self
    | false =>
      rw [e] at h
      exact List.mem_cons_of_mem _ (xkl_ok h)
def xrd (S : xW) (l : List Nat) (i : xT) (b : xB) : xO := match l with
  | [a] => (match xkl a i S.2.2.2 with
    | some t => (t, S)
    | none => ([(S.1, 1)], S.1 + 1, (S.1, b) :: S.2.1, S.2.2.1, ((a, i), [(S.1, 1)]) :: S.2.2.2))
  | _ => ([(S.1, 1)], xnew S b)
theorem xrd_ok (hS : xS P h0 r S h) {l : List Nat} {a k : Nat} {i : xT} {b : xB} {y : Int32} (hm : a ∈ l) (hi : xE r i = some (k : Int)) (hg : rk_get h a k = some (.int y)) (hb : xinB y.toInt b) : xok P h0 h r (xrd S l i b) y := by
  unfold xrd
  split
  · rename_i a'
    cases List.mem_singleton.mp hm
    split
    · rename_i t ht
      obtain ⟨i', y', g1, g2, g3⟩ := hS.2.1 _ (xkl_ok ht)
      dsimp only at g1 g2 g3
      have e : k = i' := by have := hi.symm.trans g1; injection this with this; omega
      subst e
      cases hg.symm.trans g2
      exact ⟨r, ⟨[], List.append_nil r⟩, hS, g3⟩
    · obtain ⟨h1, h2⟩ := xS_new hS hb
      have hp : r <+: r ++ [y.toInt] := ⟨_, rfl⟩
      refine ⟨_, hp, ⟨⟨h1.1.1, h1.1.2.1, h1.1.2.2⟩, fun p hp' => ?_, h1.2.2.1, h1.2.2.2⟩, h2⟩
      cases hp' with
      | head => exact ⟨k, y, xE_mono hp hi, hg, h2⟩
      | tail _ hp' => exact h1.2.1 p hp'
  · exact xok_new hS hb
def xdif (S : xW) (i j : xT) : Bool := xpr S (xadc (-1) (xsub i j)) || xpr S (xadc (-1) (xsub j i))
theorem xdif_ok (hF : xF r S) {i j : xT} {x y : Int} (h : xdif S i j = true) (hx : xE r i = some x) (hy : xE r j = some y) : x ≠ y := by
  unfold xdif at h
  rw [Bool.or_eq_true] at h
  rcases h with h | h
  · have := xpr_ok hF h (xadc_ok hF.2.1.1 (xsub_ok hx hy)); omega
  · have := xpr_ok hF h (xadc_ok hF.2.1.1 (xsub_ok hy hx)); omega
def xin1 (a : Nat) (l : List Nat) : Bool := l.any (fun b => Nat.beq a b)
theorem xin1_ok {a : Nat} {l : List Nat} : xin1 a l = true ↔ a ∈ l := by
  unfold xin1
  rw [List.any_eq_true]
  constructor
  · rintro ⟨b, h1, h2⟩
    rw [rk_beq] at h2
    rw [h2]
    exact h1
  · exact fun h => ⟨a, h, by rw [rk_beq]⟩
def xkeep (S : xW) (l : List Nat) (i : xT) : xK := S.2.2.2.filter (fun p => !xin1 p.1.1 l || xdif S p.1.2 i)
def xwr (S : xW) (l : List Nat) (i t : xT) : xW := (S.1, S.2.1, S.2.2.1, match l with
  | [a] => ((a, i), t) :: xkeep S l i
  | _ => xkeep S l i)
theorem xkeep_ok (hS : xS P h0 r S h) {l : List Nat} {a k : Nat} {i : xT} {v : Value} (hm : a ∈ l) (hi : xE r i = some (k : Int)) : xkn r (xkeep S l i) (rk_pt h a k v) := by
  intro p hp
  obtain ⟨h1, h2⟩ := List.mem_filter.mp hp
  obtain ⟨j, y, g1, g2, g3⟩ := hS.2.1 p h1
  refine ⟨j, y, g1, ?_, g3⟩
  rw [rk_get_ne]
  · exact g2
  · rw [Bool.or_eq_true] at h2
    rcases h2 with h2 | h2
    · refine Or.inl (fun e => ?_)
      rw [← e, (xin1_ok).mpr hm] at h2
      cases h2
    · have := xdif_ok hS.1 h2 g1 hi
      exact Or.inr (fun e => this (by rw [e]))
theorem xfr_put (hf : xfr P h0 h) {a k : Nat} {v : Value} (hP : P a k) : xfr P h0 (rk_pt h a k v) := by
  intro b j hn
  rw [rk_get_ne]
  · exact hf b j hn
  · by_cases e : a = b
    · subst e
      exact Or.inr (fun e => hn (by rw [← e]; exact hP))
    · exact Or.inl e
theorem xwr_ok (hS : xS P h0 r S h) {l : List Nat} {a k : Nat} {i t : xT} {y : Int32} {w : Value} (hm : a ∈ l) (hi : xE r i = some (k : Int)) (ht : xE r t = some y.toInt) (hg : rk_get h a k = some w) (hI : rk_Iv rk_Y (rk_pt h a k (.int y))) (hP : P a k) : xS P h0 r (xwr S l i t) (rk_pt h a k (.int y)) := by
  have hk := xkeep_ok (v := .int y) hS hm hi
  refine ⟨⟨hS.1.1, hS.1.2.1, hS.1.2.2⟩, ?_, hI, xfr_put hS.2.2.2 hP⟩
  unfold xwr
  dsimp only
  split
  · rename_i a'
    cases List.mem_singleton.mp hm
    intro p hp
    cases hp with
    | head => exact ⟨k, y, hi, rk_get_self hg, ht⟩
    | tail _ hp => exact hk p hp
  · exact hk
/-- where may be written: cells from to, places from to -/
abbrev xC : Type := List ((Nat × Nat) × (xT × xT))
def xcov (W : xC) (S : xW) (a : Nat) (i : xT) : Bool := W.any (fun w => Nat.ble w.1.1 a && (Nat.ble a w.1.2 && (xpr S (xsub i w.2.1) && xpr S (xsub w.2.2 i))))
def xWP (P : Nat → Nat → Prop) (r : List Int) (W : xC) : Prop := ∀ w ∈ W, ∃ x y, xE r w.2.1 = some x ∧ xE r w.2.2 = some y ∧ ∀ b k : Nat, w.1.1 ≤ b → b ≤ w.1.2 → x ≤ (k : Int) → (k : Int) ≤ y → P b k
theorem xWP_mono {s : List Int} (hp : r <+: s) {W : xC} (h : xWP P r W) : xWP P s W := by
  intro w hw
  obtain ⟨x, y, h1, h2, h3⟩ := h w hw
  exact ⟨x, y, xE_mono hp h1, xE_mono hp h2, h3⟩
theorem xcov_ok (hF : xF r S) {W : xC} (hW : xWP P r W) {a k : Nat} {i : xT} (h : xcov W S a i = true) (hi : xE r i = some (k : Int)) : P a k := by
  obtain ⟨w, h1, h2⟩ := List.any_eq_true.mp h
  rw [Bool.and_eq_true, Bool.and_eq_true, Bool.and_eq_true] at h2
  obtain ⟨x, y, g1, g2, g3⟩ := hW w h1
  have q1 := xpr_ok hF h2.2.2.1 (xsub_ok hi g1)
  have q2 := xpr_ok hF h2.2.2.2 (xsub_ok g2 hi)
  exact g3 a k (Nat.le_of_ble_eq_true h2.1) (Nat.le_of_ble_eq_true h2.2.1) (by omega) (by omega)
def xokI (S : xW) (t : xT) (u : rk_ST) : Bool := match u with
  | .inl b => xin S t b
  | .inr _ => false
theorem xokI_ok (hF : xF r S) {t : xT} {u : rk_ST} {y : Int32} (h : xokI S t u = true) (ht : xE r t = some y.toInt) : rk_okv u (.int y) := by
  unfold xokI at h
  split at h
  · exact xin_ok hF h ht
  · cases h
/-- an int into a field -/
def xwI (W : xC) (S : xW) (kd k : Nat) (t : xT) (a : Nat) : Bool := Nat.blt 0 a && (match xty a with
  | some q => Nat.beq q.1 kd && (Nat.blt k q.2.1 && (xokI S t (rk_slot q.2.2 k) && xcov W S a (xcst (Int.ofNat k))))
  | none => false)
theorem xwI_ok (hS : xS P h0 r S h) {W : xC} (hW : xWP P r W) {kd k a : Nat} {t : xT} {y : Int32} (hw : xwI W S kd k t a = true) (ht : xE r t = some y.toInt) : 0 < a ∧ ∃ vs w, h[a]? = some (kd, vs) ∧ k < vs.length ∧ rk_get h a k = some w ∧ rk_Iv rk_Y (rk_pt h a k (.int y)) ∧ P a k := by
  unfold xwI at hw
  rw [Bool.and_eq_true, Nat.blt_eq] at hw
  refine ⟨hw.1, ?_⟩
  have hw := hw.2
  split at hw
  · rename_i q hq
    rw [Bool.and_eq_true, Bool.and_eq_true, Bool.and_eq_true, rk_beq, Nat.blt_eq] at hw
    obtain ⟨w, vs, g1, g2, g3, g4, g5⟩ := hS.2.2.1.get (xty_Y hq) hw.2.1
    dsimp only at g1 g2
    rw [hw.1] at g1
    refine ⟨vs, w, g1, by omega, g4, hS.2.2.1.put (xty_Y hq) hw.2.1 (xokI_ok hS.1 hw.2.2.1 ht), ?_⟩
    exact xcov_ok hS.1 hW hw.2.2.2 (xcst_ok hS.1.2.1.1 _)
  · cases hw
def xalls (f : Nat → Bool) (g : rk_ST → Bool) : Nat → List rk_ST → Bool
  | _, [] => true
  | j, t :: ts => (!f j || g t) && xalls f g (j + 1) ts
theorem xalls_ok {f : Nat → Bool} {g : rk_ST → Bool} {t : rk_ST} : ∀ {ts : List rk_ST} {j k : Nat}, xalls f g j ts = true → ts[k]? = some t → f (j + k) = true → g t = true
  | [], _, _, _, hk, _ => by cases hk
  | u :: ts, j, k, h, hk, hf => by
    rw [xalls, Bool.and_eq_true] at h
    cases k with
    | zero =>
      cases hk
      rw [show j + 0 = j from rfl] at hf
      rw [hf] at h
      exact h.1
    | succ k => exact xalls_ok h.2 hk (by rw [← hf]; congr 1; omega)
def xalI (S : xW) (n : Nat) (ts : List rk_ST) (i t : xT) : Bool := match ts with
  | [u] => xokI S t u
  | _ => Nat.beq ts.length n && xalls (xposs S.2.1 i) (xokI S t) 0 ts
theorem xalI_ok (hF : xF r S) {n k : Nat} {ts : List rk_ST} {i t : xT} {y : Int32} (h : xalI S n ts i t = true) (hk : k < n) (hi : xE r i = some (k : Int)) (ht : xE r t = some y.toInt) : rk_okv (rk_slot ts k) (.int y) := by
  unfold xalI at h
  split at h
  · exact xokI_ok hF h ht
  · rename_i hne
    rw [Bool.and_eq_true, rk_beq] at h
    rw [rk_slot_ne (fun t e => hne t e), List.getD_eq_getElem?_getD, List.getElem?_eq_getElem (by omega)]
    refine xokI_ok hF (xalls_ok h.2 (List.getElem?_eq_getElem (by omega)) ?_) ht
    rw [Nat.zero_add]
    exact xposs_ok hF.2.1 hi
/-- an int into an array -/
def xwA (W : xC) (S : xW) (kd : Nat) (i t : xT) (a : Nat) : Bool := Nat.blt 0 a && (match xty a with
  | some q => Nat.beq q.1 kd && (xinb S i q.2.1 && (xalI S q.2.1 q.2.2 i t && xcov W S a i))
  | none => false)
theorem xwA_ok (hS : xS P h0 r S h) {W : xC} (hW : xWP P r W) {kd a : Nat} {i t : xT} {j y : Int32} (hw : xwA W S kd i t a = true) (hi : xE r i = some j.toInt) (ht : xE r t = some y.toInt) : 0 < a ∧ 0 ≤ j.toInt ∧ ∃ vs w, h[a]? = some (kd, vs) ∧ j.toNatClampNeg < vs.length ∧ rk_get h a j.toNatClampNeg = some w ∧ rk_Iv rk_Y (rk_pt h a j.toNatClampNeg (.int y)) ∧ P a j.toNatClampNeg := by
  unfold xwA at hw
  rw [Bool.and_eq_true, Nat.blt_eq] at hw
  refine ⟨hw.1, ?_⟩
  have hw := hw.2
  split at hw
  · rename_i q hq
    rw [Bool.and_eq_true, Bool.and_eq_true, Bool.and_eq_true, rk_beq] at hw
    obtain ⟨q1, q2⟩ := xinb_ok hS.1 hw.2.1 hi
    have qc := rk_clamp q1
    obtain ⟨w, vs, g1, g2, g3, g4, g5⟩ := hS.2.2.1.get (k := j.toNatClampNeg) (xty_Y hq) (by dsimp only; omega)
    dsimp only at g1 g2
    rw [hw.1] at g1
    refine ⟨q1, vs, w, g1, by omega, g4, hS.2.2.1.put (xty_Y hq) (by dsimp only; omega) (xalI_ok hS.1 hw.2.2.1 (by omega) (by rw [qc]; exact hi) ht), ?_⟩
    exact xcov_ok hS.1 hW hw.2.2.2 (by rw [qc]; exact hi)
  · cases hw
/-- a reference into an array -/
def xwR (W : xC) (S : xW) (i : xT) (l : List Nat) (a : Nat) : Bool := Nat.blt 0 a && (match xty a with
  | some (kd, n, [.inr ls]) => xinb S i n && (xcov W S a i && (l.all (fun v => xin1 v ls && (match xty v with
    | some p => (Nat.beq kd 11 && Nat.beq p.1 0) || (Nat.beq kd 12 && Nat.beq p.1 1)
    | none => false))))
  | _ => false)
theorem xwR_ok (hS : xS P h0 r S h) {W : xC} (hW : xWP P r W) {a v : Nat} {l : List Nat} {i : xT} {j : Int32} (hw : xwR W S i l a = true) (hv : v ∈ l) (hi : xE r i = some j.toInt) : 0 < a ∧ 0 ≤ j.toInt ∧ ∃ kd vs p us, h[a]? = some (kd, vs) ∧ h[v]? = some (p, us) ∧ ((kd = 11 ∧ p = 0) ∨ (kd = 12 ∧ p = 1)) ∧ j.toNatClampNeg < vs.length ∧ rk_Iv rk_Y (rk_pt h a j.toNatClampNeg (.ref v)) ∧ P a j.toNatClampNeg := by
  unfold xwR at hw
  rw [Bool.and_eq_true, Nat.blt_eq] at hw
  refine ⟨hw.1, ?_⟩
  have hw := hw.2
  split at hw
  · rename_i kd n ls hq
    rw [Bool.and_eq_true, Bool.and_eq_true] at hw
    obtain ⟨q1, q2⟩ := xinb_ok hS.1 hw.1 hi
    have qc := rk_clamp q1
    have hl := List.all_eq_true.mp hw.2.2 v hv
    rw [Bool.and_eq_true] at hl
    obtain ⟨hl1, hl2⟩ := hl
    split at hl2
    · rename_i p hp
      rw [Bool.or_eq_true, Bool.and_eq_true, Bool.and_eq_true, rk_beq, rk_beq, rk_beq, rk_beq] at hl2
      obtain ⟨us, f1, f2, f3⟩ := hS.2.2.1 v _ (xty_Y hp)
      obtain ⟨w, vs, g1, g2, g3, g4, g5⟩ := hS.2.2.1.get (k := j.toNatClampNeg) (xty_Y hq) (by dsimp only; omega)
      dsimp only at g1 g2
      refine ⟨q1, kd, vs, p.1, us, g1, f1, hl2, by omega, hS.2.2.1.put (xty_Y hq) (by dsimp only; omega) (xin1_ok.mp hl1), ?_⟩
      exact xcov_ok hS.1 hW hw.2.1 (by rw [qc]; exact hi)
    · cases hl2
  · cases hw
end RKY
