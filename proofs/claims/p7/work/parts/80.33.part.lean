/-! PARTIAL RUNS: what a run that comes to its end has done, over the heap as it stands -/
def gi (h : rk_S) (a k : Nat) : Int32 := match rk_get h a k with
  | some (.int x) => x
  | _ => 0
def gr (h : rk_S) (a k : Nat) : Nat := match rk_get h a k with
  | some (.ref x) => x
  | _ => 0
/-- whether place k of a cell of kind kd holds an int -/
def ysk (kd k : Nat) : Bool := match kd with
  | 0 => Nat.ble 2 k
  | 1 => Nat.ble 2 k
  | 2 => Nat.ble 4 k
  | 3 => Nat.ble 5 k
  | 4 => Nat.ble 1 k
  | 5 => Nat.ble 1 k
  | 6 => Nat.ble 1 k
  | 7 => Nat.ble 8 k
  | 8 => !((Nat.ble 1 k && Nat.ble k 3) || ((Nat.ble 6 k && Nat.ble k 19) || ((Nat.ble 25 k && Nat.ble k 33) || (Nat.beq k 43 || Nat.beq k 46))))
  | 11 => false
  | 12 => false
  | 13 => false
  | _ => true
/-- references that never change -/
def yref (a k : Nat) : Option Nat := match rk_Tl[a]? with
  | some q => (match rk_slot q.2.2 k with
    | .inr [b] => some b
    | _ => none)
  | none => none
def yst (kd a k : Nat) : Option Nat := match kd with
  | 0 => some (a + 1 + k)
  | 1 => some (a + 1 + k)
  | 11 => some (a + 1 + 3 * k)
  | 12 => none
  | 13 => some (a + 1 + k)
  | _ => yref a k
def yrv (kd a k : Nat) (h : rk_S) : Nat := match yst kd a k with
  | some b => b
  | none => gr h a k
def ykd (a : Nat) : Nat := match rk_Tl[a]? with
  | some q => q.1
  | none => 20
/-- the shape of a heap -/
def ysh (a kd k : Nat) (v : Value) : Prop := (ysk kd k = true → ∃ x, v = .int x) ∧ (ysk kd k = false → ∃ b, v = .ref b ∧ ∀ b', yst kd a k = some b' → b = b')
def yln (a : Nat) : Nat := match rk_Tl[a]? with
  | some q => q.2.1
  | none => 0
def yG (h : rk_S) : Prop := (∀ (a : Nat) (q : Nat × List Value), h[a]? = some q → ∀ (k : Nat) (v : Value), q.2[k]? = some v → ysh a q.1 k v) ∧ (∀ (a : Nat) (q : Nat × List Value), h[a]? = some q → (q.1 = ykd a ∧ q.2.length = yln a) ∨ (q.1 = 14 ∧ a = 0)) ∧ h.length = 345
section RKYY
variable {n d : Nat} {M : rk_M} {pc : Nat} {lv : rk_L} {st r : List Value} {h : rk_S} {o : Option Value × rk_S} {t t' : rk_T}
theorem gi_of {a k : Nat} {x : Int32} (hg : rk_get h a k = some (.int x)) : gi h a k = x := by unfold gi; rw [hg]
theorem gr_of {a k x : Nat} (hg : rk_get h a k = some (.ref x)) : gr h a k = x := by unfold gr; rw [hg]
theorem y_get {a k : Nat} {q : Nat × List Value} {v : Value} (hq : h[a]? = some q) (hv : q.2[k]? = some v) : rk_get h a k = some v := by unfold rk_get; rw [hq]; exact hv
theorem yG.int (hG : yG h) {a k : Nat} {q : Nat × List Value} {v : Value} (hq : h[a]? = some q) (hv : q.2[k]? = some v) (hk : ysk q.1 k = true) : v = .int (gi h a k) := by
  obtain ⟨x, rfl⟩ := (hG.1 a q hq k v hv).1 hk
  rw [gi_of (y_get hq hv)]
theorem yG.ref (hG : yG h) {a k : Nat} {q : Nat × List Value} {v : Value} (hq : h[a]? = some q) (hv : q.2[k]? = some v) (hk : ysk q.1 k = false) : v = .ref (yrv q.1 a k h) := by
  obtain ⟨b, rfl, hb⟩ := (hG.1 a q hq k v hv).2 hk
  unfold yrv
  cases e : yst q.1 a k with
  | none => rw [gr_of (y_get hq hv)]
  | some b' => rw [hb b' e]
theorem yG.put (hG : yG h) {a k : Nat} {q : Nat × List Value} {w : Value} (hq : h[a]? = some q) (hw : ysh a q.1 k w) : yG (rk_pt h a k w) := by
  rw [rk_pt_eq hq]
  have hl : a < h.length := (List.getElem?_eq_some_iff.mp hq).1
  refine ⟨fun a' q' hq' k' v' hv' => ?_, fun a' q' hq' => ?_, by rw [List.length_set]; exact hG.2.2⟩
  · by_cases e : a = a'
    · subst e
      rw [List.getElem?_set_self hl] at hq'
      cases hq'
      dsimp only at hv' ⊢
      by_cases ek : k = k'
      · subst ek
        by_cases hk : k < q.2.length
        · rw [List.getElem?_set_self hk] at hv'
          cases hv'
          exact hw
        · rw [List.getElem?_eq_none (by rw [List.length_set]; omega)] at hv'
          cases hv'
      · rw [List.getElem?_set_ne ek] at hv'
        exact hG.1 a q hq k' v' hv'
    · rw [List.getElem?_set_ne e] at hq'
      exact hG.1 a' q' hq' k' v' hv'
  · by_cases e : a = a'
    · subst e
      rw [List.getElem?_set_self hl] at hq'
      cases hq'
      dsimp only
      rw [List.length_set]
      exact hG.2.1 a q hq
    · rw [List.getElem?_set_ne e] at hq'
      exact hG.2.1 a' q' hq'
theorem ysh_int {a kd k : Nat} (x : Int32) (hk : ysk kd k = true) : ysh a kd k (.int x) := ⟨fun _ => ⟨x, rfl⟩, fun z => by rw [hk] at z; cases z⟩
/-- the fields' kinds are those of the shape -/
def yflk (f : Nat × Nat × Nat × Nat × Bool × Bool) : Bool := (Nat.beq f.2.2.2.1 2 && !ysk f.2.1 f.2.2.1) || (!Nat.beq f.2.2.2.1 2 && ysk f.2.1 f.2.2.1)
set_option maxRecDepth 100000 in
theorem yflk_all : ∀ c, c < 12 → ∀ f ∈ rk_fl c, yflk f = true := by decide +kernel
theorem yfl_ok {c x : Nat} {f : Nat × Nat × Nat × Bool × Bool} (hf : rk_find (rk_fl c) x = some f) : ysk f.1 f.2.1 = !Nat.beq f.2.2.1 2 := by
  by_cases hc : c < 12
  · have := yflk_all c hc _ (rk_find_mem hf)
    unfold yflk at this
    dsimp only at this
    cases e1 : Nat.beq f.2.2.1 2 <;> cases e2 : ysk f.1 f.2.1 <;> rw [e1, e2] at this <;> first | rfl | cases this
  · have : rk_fl c = [] := by
      unfold rk_fl
      split <;> first | omega | rfl
    rw [this] at hf
    cases hf
/-- one instruction over the heap as it stands, without its checks -/
def ystp (M : rk_M) (pc : Nat) (lv : rk_L) (st : List Value) (h : rk_S) (i : Instr) : Option rk_T := match i with
  | .iconst n => some (pc + 1, lv, .int (Int32.ofInt n) :: st, h)
  | .bipush n => some (pc + 2, lv, .int (Int8.ofInt n).toInt32 :: st, h)
  | .sipush n => some (pc + 3, lv, .int (Int16.ofInt n).toInt32 :: st, h)
  | .ldc x => rk_stp M pc lv st h (.ldc x)
  | .ldc_w x => rk_stp M pc lv st h (.ldc_w x)
  | .iload_n k => rk_stp M pc lv st h (.iload_n k)
  | .iload k => rk_stp M pc lv st h (.iload k)
  | .aload_n k => rk_stp M pc lv st h (.aload_n k)
  | .aload k => rk_stp M pc lv st h (.aload k)
  | .istore_n k => rk_stp M pc lv st h (.istore_n k)
  | .istore k => rk_stp M pc lv st h (.istore k)
  | .astore_n k => rk_stp M pc lv st h (.astore_n k)
  | .astore k => rk_stp M pc lv st h (.astore k)
  | .iinc k n => rk_stp M pc lv st h (.iinc k n)
  | .iadd => rk_stp M pc lv st h .iadd
  | .isub => rk_stp M pc lv st h .isub
  | .imul => rk_stp M pc lv st h .imul
  | .iand => rk_stp M pc lv st h .iand
  | .ior => rk_stp M pc lv st h .ior
  | .ixor => rk_stp M pc lv st h .ixor
  | .ishl => rk_stp M pc lv st h .ishl
  | .ishr => rk_stp M pc lv st h .ishr
  | .iushr => rk_stp M pc lv st h .iushr
  | .idiv => match st with
    | .int y :: .int x :: r => some (pc + 1, lv, .int (x / y) :: r, h)
    | _ => none
  | .irem => match st with
    | .int y :: .int x :: r => some (pc + 1, lv, .int (x - x / y * y) :: r, h)
    | _ => none
  | .dup => rk_stp M pc lv st h .dup
  | .dup2 => rk_stp M pc lv st h .dup2
  | .pop => rk_stp M pc lv st h .pop
  | .goto off => rk_stp M pc lv st h (.goto off)
  | .getfield x => match st with
    | .ref a :: r => match rk_find (rk_fl M.2.2.2.2.1) x with
      | some f => some (pc + 3, lv, (bif Nat.beq f.2.2.1 2 then .ref (yrv f.1 a f.2.1 h) else .int (gi h a f.2.1)) :: r, h)
      | none => none
    | _ => none
  | .putfield x => match st with
    | .int y :: .ref a :: r => match rk_find (rk_fl M.2.2.2.2.1) x with
      | some f => bif Nat.beq f.2.2.1 2 then none else some (pc + 3, lv, r, rk_pt h a f.2.1 (.int y))
      | none => none
    | _ => none
  | .iaload => match st with
    | .int j :: .ref a :: r => some (pc + 1, lv, .int (gi h a j.toNatClampNeg) :: r, h)
    | _ => none
  | .baload => match st with
    | .int j :: .ref a :: r => some (pc + 1, lv, .int (gi h a j.toNatClampNeg) :: r, h)
    | _ => none
  | .aaload => match st with
    | .int j :: .ref a :: r => some (pc + 1, lv, .ref (yrv (ykd a) a j.toNatClampNeg h) :: r, h)
    | _ => none
  | .iastore => match st with
    | .int x :: .int j :: .ref a :: r => some (pc + 1, lv, r, rk_pt h a j.toNatClampNeg (.int x))
    | _ => none
  | .bastore => match st with
    | .int x :: .int j :: .ref a :: r => some (pc + 1, lv, r, rk_pt h a j.toNatClampNeg (.int (x &&& 1)))
    | _ => none
  | .aastore => match st with
    | .ref v :: .int j :: .ref a :: r => bif Nat.beq (ykd a) 12 then some (pc + 1, lv, r, rk_pt h a j.toNatClampNeg (.ref v)) else none
    | _ => none
  | _ => none
theorem ystp_ok (hG : yG h) {i : Instr} (hs : rk_stp M pc lv st h i = some t) (hy : ystp M pc lv st h i = some t') : t = t' ∧ yG t'.2.2.2 := by
  have same : ∀ {x y : Option rk_T}, x = some t → y = some t' → x = y → t.2.2.2 = h → t = t' ∧ yG t'.2.2.2 := by
    intro x y e1 e2 e3 e4
    have e5 : t = t' := by
      have := e1.symm.trans (e3.trans e2)
      injection this
    exact ⟨e5, by rw [← e5, e4]; exact hG⟩
  cases i with
  | iconst n => cases hs; cases hy; exact ⟨rfl, hG⟩
  | bipush n => cases hs; cases hy; exact ⟨rfl, hG⟩
  | sipush n => cases hs; cases hy; exact ⟨rfl, hG⟩
  | ldc x => exact same hs hy rfl (by obtain ⟨v, h1, h2⟩ := Option.map_eq_some_iff.mp hs; subst h2; rfl)
  | ldc_w x => exact same hs hy rfl (by obtain ⟨v, h1, h2⟩ := Option.map_eq_some_iff.mp hs; subst h2; rfl)
  | iload_n x => exact same hs hy rfl (by obtain ⟨v, h1, h2⟩ := Option.map_eq_some_iff.mp hs; subst h2; rfl)
  | iload x => exact same hs hy rfl (by obtain ⟨v, h1, h2⟩ := Option.map_eq_some_iff.mp hs; subst h2; rfl)
  | aload_n x => exact same hs hy rfl (by obtain ⟨v, h1, h2⟩ := Option.map_eq_some_iff.mp hs; subst h2; rfl)
  | aload x => exact same hs hy rfl (by obtain ⟨v, h1, h2⟩ := Option.map_eq_some_iff.mp hs; subst h2; rfl)
  | istore_n k => exact same hs hy rfl (by obtain ⟨x, r, rfl, hk, rfl⟩ := rk_sti_ok hs; rfl)
  | istore k => exact same hs hy rfl (by obtain ⟨x, r, rfl, hk, rfl⟩ := rk_sti_ok hs; rfl)
  | astore_n k => exact same hs hy rfl (by obtain ⟨x, r, rfl, hk, rfl⟩ := rk_sta_ok hs; rfl)
  | astore k => exact same hs hy rfl (by obtain ⟨x, r, rfl, hk, rfl⟩ := rk_sta_ok hs; rfl)
  | iinc k n =>
    refine same hs hy rfl ?_
    simp only [rk_stp] at hs
    split at hs
    · rw [cond_eq_ite] at hs
      split at hs
      · cases hs; rfl
      · cases hs
    · cases hs
  | iadd => exact same hs hy rfl (by obtain ⟨x, y, r, rfl, rfl⟩ := rk_bin_ok hs; rfl)
  | isub => exact same hs hy rfl (by obtain ⟨x, y, r, rfl, rfl⟩ := rk_bin_ok hs; rfl)
  | imul => exact same hs hy rfl (by obtain ⟨x, y, r, rfl, rfl⟩ := rk_bin_ok hs; rfl)
  | iand => exact same hs hy rfl (by obtain ⟨x, y, r, rfl, rfl⟩ := rk_bin_ok hs; rfl)
  | ior => exact same hs hy rfl (by obtain ⟨x, y, r, rfl, rfl⟩ := rk_bin_ok hs; rfl)
  | ixor => exact same hs hy rfl (by obtain ⟨x, y, r, rfl, rfl⟩ := rk_bin_ok hs; rfl)
  | ishl => exact same hs hy rfl (by obtain ⟨x, y, r, rfl, rfl⟩ := rk_bin_ok hs; rfl)
  | ishr => exact same hs hy rfl (by obtain ⟨x, y, r, rfl, rfl⟩ := rk_bin_ok hs; rfl)
  | iushr => exact same hs hy rfl (by obtain ⟨x, y, r, rfl, rfl⟩ := rk_bin_ok hs; rfl)
  | idiv =>
    simp only [rk_stp] at hs
    split at hs
    · rw [cond_eq_ite] at hs
      split at hs
      · cases hs
      · cases hs; cases hy; exact ⟨rfl, hG⟩
    · cases hs
  | irem =>
    simp only [rk_stp] at hs
    split at hs
    · rw [cond_eq_ite] at hs
      split at hs
      · cases hs
      · cases hs; cases hy; exact ⟨rfl, hG⟩
    · cases hs
  | dup =>
    refine same hs hy rfl ?_
    simp only [rk_stp] at hs
    split at hs
    · rw [cond_eq_ite] at hs
      split at hs
      · cases hs; rfl
      · cases hs
    · cases hs
  | dup2 =>
    refine same hs hy rfl ?_
    simp only [rk_stp] at hs
    split at hs
    · rw [cond_eq_ite] at hs
      split at hs
      · cases hs; rfl
      · cases hs
    · cases hs
  | pop =>
    refine same hs hy rfl ?_
    simp only [rk_stp] at hs
    split at hs
    · rw [cond_eq_ite] at hs
      split at hs
      · cases hs; rfl
      · cases hs
    · cases hs
  | goto off => exact same hs hy rfl (by obtain ⟨v, h1, h2⟩ := Option.map_eq_some_iff.mp hs; subst h2; rfl)
  | getfield x =>
    obtain ⟨a, r, f, q, v, rfl, hf, hq, hqf, hv, rfl⟩ := rk_gf_ok hs
    simp only [ystp, hf] at hy
    cases hy
    have hk := yfl_ok hf
    refine ⟨?_, hG⟩
    cases e : Nat.beq f.2.2.1 2 with
    | true =>
      rw [e] at hk
      rw [hG.ref hq hv (by rw [hqf]; exact hk), hqf]
      rfl
    | false =>
      rw [e] at hk
      rw [hG.int hq hv (by rw [hqf]; exact hk)]
      rfl
  | putfield x =>
    obtain ⟨v, a, r, f, q, rfl, hf, hq, hqf, ha, hl, hfit, hfin, rfl⟩ := rk_pf_ok hs
    cases v with
    | int y =>
      simp only [ystp, hf] at hy
      cases e : Nat.beq f.2.2.1 2 with
      | true => rw [e] at hy; cases hy
      | false =>
        rw [e] at hy
        cases hy
        have hk := yfl_ok hf
        rw [e] at hk
        exact ⟨by rw [rk_pt_eq hq], hG.put hq (ysh_int y (by rw [hqf]; exact hk))⟩
    | _ => cases hy
  | iaload =>
    obtain ⟨j, a, r, q, v, rfl, hq, hk, hj, hv, rfl⟩ := rk_ald_ok (ok := fun k => Nat.beq k 9 || Nat.beq k 14) hs
    cases hy
    refine ⟨?_, hG⟩
    rw [hG.int hq hv ?_]
    rw [Bool.or_eq_true, rk_beq, rk_beq] at hk
    rcases hk with hk | hk <;> rw [hk] <;> rfl
  | baload =>
    obtain ⟨j, a, r, q, v, rfl, hq, hk, hj, hv, rfl⟩ := rk_ald_ok (ok := fun k => Nat.beq k 10) hs
    cases hy
    refine ⟨?_, hG⟩
    rw [hG.int hq hv ?_]
    rw [rk_beq] at hk
    rw [hk]
    rfl
  | aaload =>
    obtain ⟨j, a, r, q, v, rfl, hq, hk, hj, hv, rfl⟩ := rk_ald_ok (ok := fun k => Nat.beq k 11 || (Nat.beq k 12 || Nat.beq k 13)) hs
    cases hy
    refine ⟨?_, hG⟩
    rw [Bool.or_eq_true, Bool.or_eq_true, rk_beq, rk_beq, rk_beq] at hk
    have hsk : ysk q.1 j.toNatClampNeg = false := by rcases hk with hk | hk | hk <;> rw [hk] <;> rfl
    rw [hG.ref hq hv hsk]
    rcases hG.2.1 a q hq with ⟨e, -⟩ | ⟨e, -⟩
    · rw [e]
    · rw [e] at hk
      omega
  | iastore =>
    obtain ⟨x, j, a, r, q, rfl, hq, hk, ha, hj, hlt, rfl⟩ := rk_ast_ok hs
    cases hy
    exact ⟨by rw [rk_pt_eq hq], hG.put hq (ysh_int x (by rw [hk]; rfl))⟩
  | bastore =>
    obtain ⟨x, j, a, r, q, rfl, hq, hk, ha, hj, hlt, rfl⟩ := rk_ast_ok hs
    cases hy
    exact ⟨by rw [rk_pt_eq hq]; rfl, hG.put hq (ysh_int _ (by rw [hk]; rfl))⟩
  | aastore =>
    obtain ⟨v, j, a, r, q, w, rfl, hq, hw, hk, ha, hj, hlt, rfl⟩ := rk_aas_ok hs
    simp only [ystp] at hy
    cases e : Nat.beq (ykd a) 12 with
    | false => rw [e] at hy; cases hy
    | true =>
      rw [e] at hy
      cases hy
      have e := Nat.eq_of_beq_eq_true e
      refine ⟨by rw [rk_pt_eq hq], hG.put hq ?_⟩
      have e12 : q.1 = 12 := by
        rcases hG.2.1 a q hq with ⟨z, -⟩ | ⟨z, -⟩
        · rw [z]; exact e
        · omega
      rw [e12]
      exact ⟨fun z => (by cases z), fun _ => ⟨v, rfl, fun b' z => (by cases z)⟩⟩
  | _ => cases hy
def ySim : Nat → rk_M → rk_T → Option rk_T
  | 0, _, t => some t
  | k + 1, M, t => match rk_find M.2.2.2.2.2 t.1 with
    | none => none
    | some ix => match ystp M t.1 t.2.1 t.2.2.1 t.2.2.2 ix.1 with
      | none => none
      | some u => ySim k M u
theorem ystp_inv {M : rk_M} {i : Instr} {q : Nat × Nat × Nat} (hq : rk_inv M i = some q) : ystp M pc lv st h i = none := by
  obtain ⟨x, -, ⟨rfl, -⟩ | ⟨rfl, -⟩ | ⟨rfl, -⟩⟩ := rk_inv_ok hq <;> rfl
theorem ystp_ret {M : rk_M} {i : Instr} {s : List Value} {v : Option Value} (hv : rk_ret M i s = some v) : ystp M pc lv st h i = none := by
  unfold rk_ret at hv
  split at hv
  · rfl
  · rfl
  · rfl
  · cases hv
theorem E_sim : ∀ (k : Nat) {n : Nat} {t t' : rk_T}, ySim k M t = some t' → rk_ex n d M t.1 t.2.1 t.2.2.1 t.2.2.2 = some o → yG t.2.2.2 → ∃ m, m + k = n ∧ rk_ex m d M t'.1 t'.2.1 t'.2.2.1 t'.2.2.2 = some o ∧ yG t'.2.2.2
  | 0, n, t, t', hs, E, hG => by cases hs; exact ⟨n, rfl, E, hG⟩
  | k + 1, 0, t, t', hs, E, hG => by cases E
  | k + 1, n + 1, t, t', hs, E, hG => by
    rw [ySim] at hs
    obtain ⟨ix, hix, hh⟩ := rk_ex_inv E
    rw [hix] at hs
    dsimp only at hs
    split at hs
    · cases hs
    · rename_i u hu
      rcases hh with ⟨t1, h1, h2⟩ | ⟨q, d', a, r, h1, -⟩ | ⟨q, d', x, y, r, h1, -⟩ | ⟨q, d', M', ar, o', h1, -⟩ | ⟨v, h1, -⟩
      · obtain ⟨e, hG'⟩ := ystp_ok hG h1 hu
        subst e
        obtain ⟨m, g1, g2, g3⟩ := E_sim k hs h2 hG'
        exact ⟨m, by omega, g2, g3⟩
      · rw [ystp_inv h1] at hu; cases hu
      · rw [ystp_inv h1] at hu; cases hu
      · rw [ystp_inv h1] at hu; cases hu
      · rw [ystp_ret h1] at hu; cases hu
/-- some straight instructions -/
theorem E_go {pc' : Nat} {lv' : rk_L} {st' : List Value} {h' : rk_S} (k : Nat) (hs : ySim k M (pc, lv, st, h) = some (pc', lv', st', h')) (E : rk_ex n d M pc lv st h = some o) (hG : yG h) : ∃ m, m + k = n ∧ rk_ex m d M pc' lv' st' h' = some o ∧ yG h' := E_sim (t := (pc, lv, st, h)) k hs E hG
def rk_cmpP (o : Jvm.ClassFile.Cond) (x y : Int) : Prop := match o with
  | .eq => x = y
  | .ne => ¬ x = y
  | .lt => x < y
  | .ge => y ≤ x
  | .gt => y < x
  | .le => x ≤ y
theorem rk_cmpP_t {o : Jvm.ClassFile.Cond} {x y : Int} (h : rk_cmpZ o x y = true) : rk_cmpP o x y := by
  cases o
  · exact (show x = y from of_decide_eq_true h)
  · exact (show ¬ x = y from of_decide_eq_true h)
  · exact (show x < y from of_decide_eq_true h)
  · exact (show y ≤ x from of_decide_eq_true h)
  · exact (show y < x from of_decide_eq_true h)
  · exact (show x ≤ y from of_decide_eq_true h)
theorem rk_cmpP_f {o : Jvm.ClassFile.Cond} {x y : Int} (h : rk_cmpZ o x y = false) : ¬ rk_cmpP o x y := by
  cases o
  · exact (show ¬ (x = y) from of_decide_eq_false h)
  · exact (show ¬ (¬ x = y) from of_decide_eq_false h)
  · exact (show ¬ (x < y) from of_decide_eq_false h)
  · exact (show ¬ (y ≤ x) from of_decide_eq_false h)
  · exact (show ¬ (y < x) from of_decide_eq_false h)
  · exact (show ¬ (x ≤ y) from of_decide_eq_false h)
theorem E_stp {i : Instr} {len : Nat} (hix : rk_find M.2.2.2.2.2 pc = some (i, len)) (hn : rk_inv M i = none) (hr : rk_ret M i st = none) (E : rk_ex n d M pc lv st h = some o) : ∃ m t, m + 1 = n ∧ rk_stp M pc lv st h i = some t ∧ rk_ex m d M t.1 t.2.1 t.2.2.1 t.2.2.2 = some o := by
  cases n with
  | zero => cases E
  | succ n =>
    obtain ⟨ix, hix', hh⟩ := rk_ex_inv E
    cases hix.symm.trans hix'
    rcases hh with ⟨t1, h1, h2⟩ | ⟨q, d', a, r, h1, -⟩ | ⟨q, d', x, y, r, h1, -⟩ | ⟨q, d', M', ar, o', h1, -⟩ | ⟨v, h1, -⟩
    · exact ⟨n, t1, rfl, h1, h2⟩
    · cases hn.symm.trans h1
    · cases hn.symm.trans h1
    · cases hn.symm.trans h1
    · cases hr.symm.trans h1
theorem E_if1 {x : Int32} {c : Jvm.ClassFile.Cond} {off : Int} {len tg : Nat} (hix : rk_find M.2.2.2.2.2 pc = some (.ifCond c off, len)) (hj : rk_jmp pc off = some tg) (E : rk_ex n d M pc lv (.int x :: r) h = some o) : (rk_cmpP c x.toInt 0 ∧ ∃ m, m + 1 = n ∧ rk_ex m d M tg lv r h = some o) ∨ (¬ rk_cmpP c x.toInt 0 ∧ ∃ m, m + 1 = n ∧ rk_ex m d M (pc + 3) lv r h = some o) := by
  obtain ⟨m, t, hm, ht, E⟩ := E_stp hix rfl rfl E
  simp only [rk_stp, hj, Option.map_some, Option.some.injEq] at ht
  subst ht
  have e0 : rk_cmp c x 0 = rk_cmpZ c x.toInt 0 := rk_cmpI c x 0
  rw [e0] at E
  cases e : rk_cmpZ c x.toInt 0 with
  | true => rw [e] at E; exact Or.inl ⟨rk_cmpP_t e, m, hm, E⟩
  | false => rw [e] at E; exact Or.inr ⟨rk_cmpP_f e, m, hm, E⟩
theorem E_if2 {x y : Int32} {c : Jvm.ClassFile.Cond} {off : Int} {len tg : Nat} (hix : rk_find M.2.2.2.2.2 pc = some (.if_icmp c off, len)) (hj : rk_jmp pc off = some tg) (E : rk_ex n d M pc lv (.int y :: .int x :: r) h = some o) : (rk_cmpP c x.toInt y.toInt ∧ ∃ m, m + 1 = n ∧ rk_ex m d M tg lv r h = some o) ∨ (¬ rk_cmpP c x.toInt y.toInt ∧ ∃ m, m + 1 = n ∧ rk_ex m d M (pc + 3) lv r h = some o) := by
  obtain ⟨m, t, hm, ht, E⟩ := E_stp hix rfl rfl E
  simp only [rk_stp, hj, Option.map_some, Option.some.injEq] at ht
  subst ht
  have e0 := rk_cmpI c x y
  rw [e0] at E
  cases e : rk_cmpZ c x.toInt y.toInt with
  | true => rw [e] at E; exact Or.inl ⟨rk_cmpP_t e, m, hm, E⟩
  | false => rw [e] at E; exact Or.inr ⟨rk_cmpP_f e, m, hm, E⟩
theorem E_swd {x : Int32} {dd lo hi : Int} {offs : Array Int} {len tg : Nat} (hix : rk_find M.2.2.2.2.2 pc = some (.tableswitch dd lo hi offs, len)) (hx : x.toInt < lo ∨ hi < x.toInt) (hj : rk_jmp pc dd = some tg) (E : rk_ex n d M pc lv (.int x :: r) h = some o) : ∃ m, m + 1 = n ∧ rk_ex m d M tg lv r h = some o := by
  obtain ⟨m, t, hm, ht, E⟩ := E_stp hix rfl rfl E
  simp only [rk_stp, rk_sw, decide_eq_true hx, cond_true, hj, Option.map_some, Option.some.injEq] at ht
  subst ht
  exact ⟨m, hm, E⟩
theorem E_swi {x : Int32} {dd lo hi off : Int} {offs : Array Int} {len tg : Nat} {k : Int} (hix : rk_find M.2.2.2.2.2 pc = some (.tableswitch dd lo hi offs, len)) (hx : x.toInt = k) (h1 : lo ≤ k) (h2 : k ≤ hi) (ho : offs[(k - lo).toNat]? = some off) (hj : rk_jmp pc off = some tg) (E : rk_ex n d M pc lv (.int x :: r) h = some o) : ∃ m, m + 1 = n ∧ rk_ex m d M tg lv r h = some o := by
  obtain ⟨m, t, hm, ht, E⟩ := E_stp hix rfl rfl E
  have q : ¬ (x.toInt < lo ∨ hi < x.toInt) := by omega
  rw [← hx] at ho
  simp only [rk_stp, rk_sw, decide_eq_false q, cond_false, ho, hj, Option.map_some, Option.some.injEq] at ht
  subst ht
  exact ⟨m, hm, E⟩
theorem E_rx {i : Instr} {len : Nat} (hix : rk_find M.2.2.2.2.2 pc = some (i, len)) (hs : rk_stp M pc lv st h i = none) (hn : rk_inv M i = none) (E : rk_ex n d M pc lv st h = some o) : ∃ v, rk_ret M i st = some v ∧ o = (v, h) := by
  cases n with
  | zero => cases E
  | succ n =>
    obtain ⟨ix, hix', hh⟩ := rk_ex_inv E
    cases hix.symm.trans hix'
    rcases hh with ⟨t1, h1, h2⟩ | ⟨q, d', a, r, h1, -⟩ | ⟨q, d', x, y, r, h1, -⟩ | ⟨q, d', M', ar, o', h1, -⟩ | ⟨v, h1, h2⟩
    · cases hs.symm.trans h1
    · cases hn.symm.trans h1
    · cases hn.symm.trans h1
    · cases hn.symm.trans h1
    · exact ⟨v, h1, h2⟩
theorem E_reti {x : Int32} {len : Nat} (hix : rk_find M.2.2.2.2.2 pc = some (.ireturn, len)) (E : rk_ex n d M pc lv [.int x] h = some o) : o = (some (.int x), h) := by
  obtain ⟨v, h1, h2⟩ := E_rx hix rfl rfl E
  have : v = some (.int x) := by
    simp only [rk_ret] at h1
    split at h1
    · cases h1; rfl
    · rw [cond_eq_ite] at h1
      split at h1
      · cases h1; rfl
      · cases h1
    · cases h1
  rw [h2, this]
theorem E_reta {x : Nat} {len : Nat} (hix : rk_find M.2.2.2.2.2 pc = some (.areturn, len)) (E : rk_ex n d M pc lv [.ref x] h = some o) : o = (some (.ref x), h) := by
  obtain ⟨v, h1, h2⟩ := E_rx hix rfl rfl E
  have : v = some (.ref x) := by
    simp only [rk_ret] at h1
    split at h1
    · cases h1; rfl
    · cases h1
  rw [h2, this]
theorem E_retv {len : Nat} (hix : rk_find M.2.2.2.2.2 pc = some (.return_, len)) (E : rk_ex n d M pc lv [] h = some o) : o = (none, h) := by
  obtain ⟨v, h1, h2⟩ := E_rx hix rfl rfl E
  have : v = none := by
    simp only [rk_ret] at h1
    split at h1
    · cases h1; rfl
    · cases h1
  rw [h2, this]
def yargs (na kd : Nat) (st : List Value) : Option (List Value × List Value) := bif Nat.beq kd 0 || Nat.beq kd 4 then some ((st.take na).reverse, st.drop na) else match st.drop na with
  | .ref b :: r => some (.ref b :: (st.take na).reverse, r)
  | _ => none
theorem yargs_ok {M' : rk_M} {na kd : Nat} {ar ar' : List Value × List Value} (hg : rk_go M' na kd st h = some ar) (hy : yargs na kd st = some ar') : ar = ar' := by
  have gx : ∀ {av r : List Value} {ar : List Value × List Value}, rk_gx M' av r = some ar → ar = (av, r) := by
    intro av r ar e
    unfold rk_gx at e
    rw [cond_eq_ite] at e
    split at e
    · cases e; rfl
    · cases e
  unfold rk_go at hg
  unfold yargs at hy
  rw [cond_eq_ite] at hg
  split at hg
  · cases e : Nat.beq kd 0 || Nat.beq kd 4 with
    | true =>
      rw [e] at hg hy
      cases hy
      exact gx hg
    | false =>
      rw [e] at hg hy
      dsimp only [cond] at hg hy
      split at hg
      · rename_i b r hb
        rw [hb] at hy
        cases hy
        split at hg
        · split at hg
          · exact gx hg
          · cases hg
        · cases hg
      · cases hg
  · cases hg
/-- a call -/
theorem E_call {i : Instr} {len : Nat} {q : Nat × Nat × Nat} {M' : rk_M} {ar : List Value × List Value} (hix : rk_find M.2.2.2.2.2 pc = some (i, len)) (hq : rk_inv M i = some q) (h3 : Nat.beq q.2.2 3 = false) (h5 : Nat.beq q.2.2 5 = false) (hM : rk_m q.1 = some M') (ha : yargs q.2.1 q.2.2 st = some ar) (E : rk_ex n d M pc lv st h = some o) : ∃ m d' o', m + 1 = n ∧ rk_ex m d' M' 0 (lv_args 0 ar.1) [] h = some o' ∧ rk_ex m d M (pc + 3) lv (o'.1.toList ++ ar.2) o'.2 = some o := by
  cases n with
  | zero => cases E
  | succ n =>
    obtain ⟨ix, hix', hh⟩ := rk_ex_inv E
    cases hix.symm.trans hix'
    rcases hh with ⟨t1, h1, h2⟩ | ⟨q', d', a, r, h1, -, h1', -⟩ | ⟨q', d', x, y, r, h1, -, h1', -⟩ | ⟨q', d', M2, ar', o', h1, h2, h4, h6, h7, h8, h9, h10⟩ | ⟨v, h1, -⟩
    · rw [rk_inv_stp hq] at h1; cases h1
    · cases hq.symm.trans h1; rw [h1'] at h3; cases h3
    · cases hq.symm.trans h1; rw [h1'] at h5; cases h5
    · cases hq.symm.trans h1
      cases hM.symm.trans h7
      cases yargs_ok h8 ha
      exact ⟨n, d', o', rfl, h9, h10⟩
    · obtain ⟨-, z⟩ := rk_ret_stp h1 pc lv st h
      cases hq.symm.trans z
/-- Math.max -/
theorem E_max {i : Instr} {len : Nat} {q : Nat × Nat × Nat} {x y : Int32} (hix : rk_find M.2.2.2.2.2 pc = some (i, len)) (hq : rk_inv M i = some q) (h5 : q.2.2 = 5) (E : rk_ex n d M pc lv (.int y :: .int x :: r) h = some o) : ∃ m, m + 1 = n ∧ rk_ex m d M (pc + 3) lv (.int (if x < y then y else x) :: r) h = some o := by
  cases n with
  | zero => cases E
  | succ n =>
    obtain ⟨ix, hix', hh⟩ := rk_ex_inv E
    cases hix.symm.trans hix'
    rcases hh with ⟨t1, h1, h2⟩ | ⟨q', d', a, r, h1, -, h1', -⟩ | ⟨q', d', x', y', r', h1, -, h1', h2, -, h3⟩ | ⟨q', d', M2, ar', o', h1, h2, h4, h6, -⟩ | ⟨v, h1, -⟩
    · rw [rk_inv_stp hq] at h1; cases h1
    · cases hq.symm.trans h1; omega
    · cases h2
      exact ⟨n, rfl, h3⟩
    · cases hq.symm.trans h1; exact absurd h5 h6
    · obtain ⟨-, z⟩ := rk_ret_stp h1 pc lv (.int y :: .int x :: r) h
      cases hq.symm.trans z
end RKYY
/-! places behind a write -/
theorem gi_ne {h : rk_S} {a k a' k' : Nat} {v : Value} (hne : a ≠ a' ∨ k ≠ k') : gi (rk_pt h a k v) a' k' = gi h a' k' := by unfold gi; rw [rk_get_ne hne]
theorem gr_ne {h : rk_S} {a k a' k' : Nat} {v : Value} (hne : a ≠ a' ∨ k ≠ k') : gr (rk_pt h a k v) a' k' = gr h a' k' := by unfold gr; rw [rk_get_ne hne]
theorem gi_x {h : rk_S} {a k a' k' : Nat} {v : Value} (hne : a ≠ a') : gi (rk_pt h a k v) a' k' = gi h a' k' := gi_ne (Or.inl hne)
theorem gi_y {h : rk_S} {a k a' k' : Nat} {v : Value} (hne : k ≠ k') : gi (rk_pt h a k v) a' k' = gi h a' k' := gi_ne (Or.inr hne)
theorem gr_x {h : rk_S} {a k a' k' : Nat} {v : Value} (hne : a ≠ a') : gr (rk_pt h a k v) a' k' = gr h a' k' := gr_ne (Or.inl hne)
theorem gr_y {h : rk_S} {a k a' k' : Nat} {v : Value} (hne : k ≠ k') : gr (rk_pt h a k v) a' k' = gr h a' k' := gr_ne (Or.inr hne)
theorem yG.at {h : rk_S} (hG : yG h) {a k : Nat} (h0 : 0 < a) (h1 : a < 345) (hk : k < yln a) : ∃ q v, h[a]? = some q ∧ q.1 = ykd a ∧ q.2.length = yln a ∧ q.2[k]? = some v ∧ rk_get h a k = some v := by
  have hl : a < h.length := by rw [hG.2.2]; exact h1
  have hq := List.getElem?_eq_getElem hl
  rcases hG.2.1 a _ hq with ⟨e1, e2⟩ | ⟨-, e⟩
  · have hv := List.getElem?_eq_getElem (show k < h[a].2.length by omega)
    exact ⟨_, _, hq, e1, e2, hv, y_get hq hv⟩
  · omega
theorem yG.gi_put {h : rk_S} (hG : yG h) {a k : Nat} (h0 : 0 < a) (h1 : a < 345) (hk : k < yln a) (x : Int32) : gi (rk_pt h a k (.int x)) a k = x := by
  obtain ⟨q, v, -, -, -, -, hg⟩ := hG.at h0 h1 hk
  exact gi_of (rk_get_self hg)
theorem yG.gr_put {h : rk_S} (hG : yG h) {a k : Nat} (h0 : 0 < a) (h1 : a < 345) (hk : k < yln a) (x : Nat) : gr (rk_pt h a k (.ref x)) a k = x := by
  obtain ⟨q, v, -, -, -, -, hg⟩ := hG.at h0 h1 hk
  exact gr_of (rk_get_self hg)
theorem gi_self {h : rk_S} {a k : Nat} {x : Int32} {w : Value} (hg : rk_get h a k = some w) : gi (rk_pt h a k (.int x)) a k = x := gi_of (rk_get_self hg)
theorem gr_self {h : rk_S} {a k x : Nat} {w : Value} (hg : rk_get h a k = some w) : gr (rk_pt h a k (.ref x)) a k = x := gr_of (rk_get_self hg)
/-! the shape out of the typing -/
def ytk (a : Nat) (q : Nat × Nat × List rk_ST) : Bool := match q.2.2 with
  | [.inl _] => Nat.beq q.1 9 || Nat.beq q.1 10
  | [.inr _] => Nat.beq q.1 12
  | ts => Nat.beq ts.length q.2.1 && (List.range ts.length).all (fun k => match ts[k]? with
    | some (.inl _) => ysk q.1 k
    | some (.inr [b]) => !ysk q.1 k && (match yst q.1 a k with | some b' => Nat.beq b b' | none => true)
    | _ => false)
set_option maxRecDepth 100000 in
theorem ytk_all : (List.range 344).all (fun i => match xty (i + 1) with | some q => ytk (i + 1) q && (Nat.beq q.1 (ykd (i + 1)) && Nat.beq q.2.1 (yln (i + 1))) | none => false) = true := by decide +kernel
theorem yT_key (a : Nat) (ha : 0 < a) (hb : a < 345) : ∃ q, xty a = some q ∧ ytk a q = true ∧ q.1 = ykd a ∧ q.2.1 = yln a := by
  have := List.all_eq_true.mp ytk_all (a - 1) (List.mem_range.mpr (by omega))
  rw [show a - 1 + 1 = a by omega] at this
  split at this
  · rename_i q hq
    rw [Bool.and_eq_true, Bool.and_eq_true, rk_beq, rk_beq] at this
    exact ⟨q, hq, this.1, this.2.1, this.2.2⟩
  · cases this
theorem yT_pos {h : rk_S} (hI : rk_Iv rk_Y h) (hl : h.length = 345) {a : Nat} (ha : 0 < a) {q : Nat × List Value} (hq : h[a]? = some q) : (q.1 = ykd a ∧ q.2.length = yln a) ∧ ∀ (k : Nat) (v : Value), q.2[k]? = some v → ysh a q.1 k v := by
  have hal : a < h.length := (List.getElem?_eq_some_iff.mp hq).1
  obtain ⟨p, g1, g2, g3⟩ := yT_key a (by omega) (by omega)
  obtain ⟨ws, f1, f2, f3⟩ := hI a _ (xty_Y g1)
  cases hq.symm.trans f1
  refine ⟨⟨g3.1, f2.trans g3.2⟩, fun k v hv' => ?_⟩
  have f3 := f3 k v hv'
  have hkl : k < p.2.1 := by
    have := (List.getElem?_eq_some_iff.mp hv').1
    dsimp only at this f2
    omega
  dsimp only at f3 ⊢
  unfold ytk at g2
  split at g2
  · rename_i b hb
    rw [hb] at f3
    obtain ⟨x, rfl, -⟩ := rk_okI (b := b) f3
    rw [Bool.or_eq_true, rk_beq, rk_beq] at g2
    exact ysh_int x (by rcases g2 with e | e <;> rw [e] <;> rfl)
  · rename_i b hb
    rw [hb] at f3
    obtain ⟨x, rfl, -⟩ := rk_okR (l := b) f3
    rw [rk_beq] at g2
    rw [g2]
    exact ⟨fun z => (by cases z), fun _ => ⟨x, rfl, fun b' z => (by cases z)⟩⟩
  · rename_i hn1 hn2
    rw [Bool.and_eq_true, rk_beq] at g2
    have g4 := List.all_eq_true.mp g2.2 k (List.mem_range.mpr (by omega))
    rw [rk_slot_ne (fun t e => by cases t with | inl b => exact hn1 b e | inr b => exact hn2 b e), List.getD_eq_getElem?_getD] at f3
    split at g4
    · rename_i b hb
      rw [hb] at f3
      obtain ⟨x, rfl, -⟩ := rk_okI (b := b) f3
      exact ysh_int x g4
    · rename_i b hb
      rw [hb] at f3
      obtain ⟨x, rfl, hx⟩ := rk_okR (l := [b]) f3
      rw [Bool.and_eq_true, Bool.not_eq_true'] at g4
      refine ⟨fun z => (by rw [g4.1] at z; cases z), fun _ => ⟨x, rfl, fun b' z => ?_⟩⟩
      have g5 := g4.2
      rw [z] at g5
      rw [List.mem_singleton.mp hx]
      exact Nat.eq_of_beq_eq_true g5
    · cases g4
theorem yG_of {h : rk_S} (hI : rk_Iv rk_Y h) (hl : h.length = 345) {vs : List Value} (h0 : h[0]? = some (14, vs)) (hv : ∀ v ∈ vs, ∃ x, v = .int x) : yG h := by
  refine ⟨fun a q hq k v hv' => ?_, fun a q hq => ?_, hl⟩
  · by_cases ha : a = 0
    · subst ha
      cases h0.symm.trans hq
      obtain ⟨x, rfl⟩ := hv v (List.mem_of_getElem? hv')
      exact ysh_int x rfl
    · exact (yT_pos hI hl (by omega) hq).2 k v hv'
  · by_cases ha : a = 0
    · subst ha
      cases h0.symm.trans hq
      exact Or.inr ⟨rfl, rfl⟩
    · exact Or.inl (yT_pos hI hl (by omega) hq).1
theorem yG_of2 {h h' : rk_S} (hG : yG h) (hI : rk_Iv rk_Y h') (hl : h'.length = h.length) (h0 : h'[0]? = h[0]?) : yG h' := by
  have hl' : h'.length = 345 := hl.trans hG.2.2
  refine ⟨fun a q hq k v hv' => ?_, fun a q hq => ?_, hl'⟩
  · by_cases ha : a = 0
    · subst ha
      rw [h0] at hq
      exact hG.1 0 q hq k v hv'
    · exact (yT_pos hI hl' (by omega) hq).2 k v hv'
  · by_cases ha : a = 0
    · subst ha
      rw [h0] at hq
      exact hG.2.1 0 q hq
    · exact Or.inl (yT_pos hI hl' (by omega) hq).1
