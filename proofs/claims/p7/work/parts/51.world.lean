/-! the symbolic machine's world, over a heap -/
def xM (r : List Int) (v : xV) (w : Value) : Prop := match v, w with
  | .inl t, .int x => xE r t = some x.toInt
  | .inr l, .ref a => a ∈ l
  | _, _ => False
theorem xM_int {r : List Int} {t : xT} {w : Value} (h : xM r (.inl t) w) : ∃ x : Int32, w = .int x ∧ xE r t = some x.toInt := by
  cases w <;> first | exact ⟨_, rfl, h⟩ | exact absurd h id
theorem xM_ref {r : List Int} {l : List Nat} {w : Value} (h : xM r (.inr l) w) : ∃ a, w = .ref a ∧ a ∈ l := by
  cases w <;> first | exact ⟨_, rfl, h⟩ | exact absurd h id
theorem xM_cat {r : List Int} {v : xV} {w : Value} (h : xM r v w) : w.category = 1 := by
  cases v with
  | inl t => obtain ⟨x, rfl, -⟩ := xM_int h; rfl
  | inr l => obtain ⟨x, rfl, -⟩ := xM_ref h; rfl
theorem xM_mono {r s : List Int} (hp : r <+: s) {v : xV} {w : Value} (h : xM r v w) : xM s v w := by
  cases v with
  | inl t => obtain ⟨x, rfl, g⟩ := xM_int h; exact xE_mono hp g
  | inr l => obtain ⟨x, rfl, g⟩ := xM_ref h; exact g
def xkn (r : List Int) (kn : xK) (h : rk_S) : Prop := ∀ p ∈ kn, ∃ (i : Nat) (y : Int32), xE r p.1.2 = some (i : Int) ∧ rk_get h p.1.1 i = some (.int y) ∧ xE r p.2 = some y.toInt
theorem xkn_mono {r s : List Int} (hp : r <+: s) {kn : xK} {h : rk_S} (hk : xkn r kn h) : xkn s kn h := by
  intro p hm
  obtain ⟨i, y, h1, h2, h3⟩ := hk p hm
  exact ⟨i, y, xE_mono hp h1, h2, xE_mono hp h3⟩
def xfr (P : Nat → Nat → Prop) (h0 h : rk_S) : Prop := ∀ b k, ¬ P b k → rk_get h b k = rk_get h0 b k
/-- all of a world -/
def xS (P : Nat → Nat → Prop) (h0 : rk_S) (r : List Int) (S : xW) (h : rk_S) : Prop := xF r S ∧ xkn r S.2.2.2 h ∧ rk_Iv rk_Y h ∧ xfr P h0 h
def xlv (r : List Int) (lv : xL) (cl : rk_L) : Prop := ∀ k v, rk_find lv k = some v → ∃ w, rk_find cl k = some w ∧ xM r v w
theorem xlv_mono {r s : List Int} (hp : r <+: s) {lv : xL} {cl : rk_L} (h : xlv r lv cl) : xlv s lv cl := by
  intro k v hk
  obtain ⟨w, h1, h2⟩ := h k v hk
  exact ⟨w, h1, xM_mono hp h2⟩
def xsk (r : List Int) : List xV → List Value → Prop
  | [], [] => True
  | v :: s, w :: c => xM r v w ∧ xsk r s c
  | _, _ => False
theorem xsk_cons {r : List Int} {v : xV} {s : List xV} {c : List Value} (h : xsk r (v :: s) c) : ∃ w c', c = w :: c' ∧ xM r v w ∧ xsk r s c' := by
  cases c with
  | nil => exact absurd h id
  | cons w c' => exact ⟨w, c', rfl, h.1, h.2⟩
theorem xsk_nil {r : List Int} {c : List Value} (h : xsk r [] c) : c = [] := by
  cases c with
  | nil => rfl
  | cons w c' => exact absurd h id
theorem xsk_mono {r s : List Int} (hp : r <+: s) : ∀ {st : List xV} {c : List Value}, xsk r st c → xsk s st c
  | [], c, h => by rw [xsk_nil h]; trivial
  | v :: st, c, h => by
    obtain ⟨w, c', rfl, h1, h2⟩ := xsk_cons h
    exact ⟨xM_mono hp h1, xsk_mono hp h2⟩
theorem xsk_len {r : List Int} : ∀ {st : List xV} {c : List Value}, xsk r st c → c.length = st.length
  | [], c, h => by rw [xsk_nil h]; rfl
  | v :: st, c, h => by
    obtain ⟨w, c', rfl, h1, h2⟩ := xsk_cons h
    simp only [List.length_cons, xsk_len h2]
theorem rk_find_up2 {i k : Nat} {v w : Value} (hk : i ≠ k) (hw : w.category = 1) : ∀ {lv : rk_L}, rk_find lv k = some w → rk_find (rk_up lv i v) k = some w := by
  intro lv h
  unfold rk_up
  rw [rk_find, rk_nbeq hk]
  dsimp only [cond]
  induction lv with
  | nil => cases h
  | cons q r ih =>
    rcases rk_find_cons h with ⟨rfl, rfl⟩ | ⟨h1, h2⟩
    · rw [List.filter_cons_of_pos (by simp [hw]; omega), rk_find, show Nat.beq q.1 q.1 = true from Nat.beq_refl _]
      rfl
    · have ih := ih h2
      cases e : (fun q : Nat × Value => !(q.1 == i) && !(q.1 + 1 == i && q.2.category == 2)) q with
      | true =>
        rw [List.filter_cons_of_pos (by exact e), rk_find, rk_nbeq (Ne.symm h1)]
        exact ih
      | false =>
        rw [List.filter_cons_of_neg (by dsimp only at e; rw [e]; exact Bool.false_ne_true)]
        exact ih
theorem xlv_up {r : List Int} {lv : xL} {cl : rk_L} (h : xlv r lv cl) {k : Nat} {v : xV} {w : Value} (hv : xM r v w) : xlv r ((k, v) :: lv) (rk_up cl k w) := by
  intro j u hj
  rcases rk_find_cons hj with ⟨rfl, rfl⟩ | ⟨h1, h2⟩
  · refine ⟨w, ?_, hv⟩
    unfold rk_up
    rw [rk_find, show Nat.beq j j = true from Nat.beq_refl _]
    rfl
  · obtain ⟨w', g1, g2⟩ := h j u h2
    exact ⟨w', rk_find_up2 (Ne.symm h1) (xM_cat g2) g1, g2⟩
def xA (P : Nat → Nat → Prop) (h0 : rk_S) (r : List Int) (lv : xL) (st : List xV) (S : xW) (cl : rk_L) (ck : List Value) (h : rk_S) : Prop := xlv r lv cl ∧ xsk r st ck ∧ xS P h0 r S h
/-- a new unknown -/
def xnew (S : xW) (b : xB) : xW := (S.1 + 1, (S.1, b) :: S.2.1, S.2.2.1, S.2.2.2)
theorem xF_new {r : List Int} {S : xW} (hF : xF r S) {b : xB} {x : Int} (hx : xinB x b) : xF (r ++ [x]) (xnew S b) ∧ xE (r ++ [x]) [(S.1, 1)] = some x := by
  have hp : r <+: r ++ [x] := ⟨[x], rfl⟩
  have hi : (r ++ [x])[S.1]? = some x := by rw [← hF.1]; exact List.getElem?_concat_length
  refine ⟨⟨?_, ⟨x_pre hp hF.2.1.1, fun i c hi' => ?_⟩, fun t ht => ?_⟩, ?_⟩
  · rw [List.length_append, hF.1]; rfl
  · rcases rk_find_cons hi' with ⟨rfl, rfl⟩ | ⟨-, h⟩
    · exact ⟨x, hi, hx⟩
    · obtain ⟨y, g1, g2⟩ := hF.2.1.2 i c h
      exact ⟨y, x_pre hp g1, g2⟩
  · obtain ⟨y, g1, g2⟩ := hF.2.2 t ht
    exact ⟨y, xE_mono hp g1, g2⟩
  · rw [xE_mk (p := (S.1, 1)) hi rfl]
    congr 1
    dsimp only
    omega
section RKX
variable {P : Nat → Nat → Prop} {h0 h : rk_S} {r : List Int} {S : xW} {lv : xL} {st : List xV} {cl : rk_L} {ck : List Value}
theorem xS_new (hS : xS P h0 r S h) {b : xB} {x : Int} (hx : xinB x b) : xS P h0 (r ++ [x]) (xnew S b) h ∧ xE (r ++ [x]) [(S.1, 1)] = some x := by
  obtain ⟨h1, h2⟩ := xF_new hS.1 hx
  exact ⟨⟨h1, xkn_mono ⟨[x], rfl⟩ hS.2.1, hS.2.2.1, hS.2.2.2⟩, h2⟩
theorem xS_same (hS : xS P h0 r S h) {S' : xW} (hF : xF r S') (he : xsame S S') : xS P h0 r S' h := ⟨hF, by rw [he.2]; exact hS.2.1, hS.2.2.1, hS.2.2.2⟩
def xany : xB := [(-2147483648, 2147483647)]
theorem xany_ok (x : Int32) : xinB x.toInt xany := ⟨(-2147483648, 2147483647), List.mem_cons_self, by have := Int32.le_toInt x; dsimp only; omega, by have := Int32.toInt_lt x; dsimp only; omega⟩
/-- what an instruction leaves on the stack, and the world -/
abbrev xO : Type := xT × xW
def xok (P : Nat → Nat → Prop) (h0 h : rk_S) (r : List Int) (o : xO) (w : Int32) : Prop := ∃ r', r <+: r' ∧ xS P h0 r' o.2 h ∧ xE r' o.1 = some w.toInt
theorem xok_new (hS : xS P h0 r S h) {b : xB} {w : Int32} (hw : xinB w.toInt b) : xok P h0 h r ([(S.1, 1)], xnew S b) w := by
  obtain ⟨h1, h2⟩ := xS_new hS hw
  exact ⟨_, ⟨_, rfl⟩, h1, h2⟩
def xlin (S : xW) (t : xT) : xO := bif xge S.2.1 (xadc 2147483648 t) && xge S.2.1 (xadc 2147483647 (xscl (-1) t)) then (t, S) else ([(S.1, 1)], xnew S xany)
theorem xlin_ok (hS : xS P h0 r S h) {t : xT} {z : Int} (ht : xE r t = some z) {w : Int32} (hw : -2147483648 ≤ z → z ≤ 2147483647 → w.toInt = z) : xok P h0 h r (xlin S t) w := by
  unfold xlin
  cases e : xge S.2.1 (xadc 2147483648 t) && xge S.2.1 (xadc 2147483647 (xscl (-1) t)) with
  | true =>
    rw [Bool.and_eq_true] at e
    have q1 := xge_ok hS.1.2.1 e.1 (xadc_ok hS.1.2.1.1 ht)
    have q2 := xge_ok hS.1.2.1 e.2 (xadc_ok hS.1.2.1.1 (xscl_ok ht))
    exact ⟨r, ⟨[], List.append_nil r⟩, hS, by rw [hw (by omega) (by omega)]; exact ht⟩
  | false => exact xok_new hS (xany_ok w)
theorem rk_bm {z : Int} (h1 : -2147483648 ≤ z) (h2 : z ≤ 2147483647) : z.bmod (2 ^ 32) = z := by
  unfold Int.bmod
  dsimp only
  rw [show ((2 ^ 32 : Nat) : Int) = 4294967296 from rfl]
  split <;> omega
def xcon (t : xT) : Option Int := match t with
  | [] => some 0
  | [p] => bif Nat.beq p.1 0 then some p.2 else none
  | _ => none
theorem xcon_ok {t : xT} {c y : Int} (h0 : r[0]? = some 1) (h : xcon t = some c) (hy : xE r t = some y) : y = c := by
  unfold xcon at h
  split at h
  · cases h; cases hy; rfl
  · rename_i p
    cases e : Nat.beq p.1 0 with
    | false => rw [e] at h; cases h
    | true =>
      rw [e] at h
      cases h
      obtain ⟨a, b, g1, g2, rfl⟩ := xE_cons hy
      cases g2
      rw [Nat.eq_of_beq_eq_true e] at g1
      cases g1.symm.trans h0
      omega
  · cases h
def xiadd (S : xW) (x y : xT) : xO := xlin S (xadd x y)
def xisub (S : xW) (x y : xT) : xO := xlin S (xsub x y)
def ximul (S : xW) (x y : xT) : xO := match xcon x with
  | some c => xlin S (xmul c y)
  | none => match xcon y with
    | some c => xlin S (xmul c x)
    | none => ([(S.1, 1)], xnew S xany)
def xiand (S : xW) (x y : xT) : xO := match xcon y with
  | some c => bif zle 0 c then ([(S.1, 1)], xnew S [(0, c)]) else ([(S.1, 1)], xnew S xany)
  | none => ([(S.1, 1)], xnew S xany)
def xiob (S : xW) (x y : xT) : xB := bif xin S x [(0, 32767)] && xin S y [(0, 32767)] then [(0, 32767)] else xany
def xior (S : xW) (x y : xT) : xO := bif xpr S y then ([(S.1, 1)], S.1 + 1, (S.1, xiob S x y) :: S.2.1, xsub [(S.1, 1)] x :: S.2.2.1, S.2.2.2) else ([(S.1, 1)], xnew S xany)
def xishl (S : xW) (x y : xT) : xO := match xcon x with
  | some c => bif zeq c 1 && (xpr S y && xpr S (xadc 14 (xscl (-1) y))) then ([(S.1, 1)], xnew S [(1, 16384)]) else ([(S.1, 1)], xnew S xany)
  | none => ([(S.1, 1)], xnew S xany)
def xoth (S : xW) (_ _ : xT) : xO := ([(S.1, 1)], xnew S xany)
theorem xiadd_ok (hS : xS P h0 r S h) {a b : xT} {x y : Int32} (hx : xE r a = some x.toInt) (hy : xE r b = some y.toInt) : xok P h0 h r (xiadd S a b) (x + y) :=
  xlin_ok hS (xadd_ok hx hy) (fun h1 h2 => by rw [Int32.toInt_add]; exact rk_bm h1 h2)
theorem xisub_ok (hS : xS P h0 r S h) {a b : xT} {x y : Int32} (hx : xE r a = some x.toInt) (hy : xE r b = some y.toInt) : xok P h0 h r (xisub S a b) (x - y) :=
  xlin_ok hS (xsub_ok hx hy) (fun h1 h2 => by rw [Int32.toInt_sub]; exact rk_bm h1 h2)
theorem ximul_ok (hS : xS P h0 r S h) {a b : xT} {x y : Int32} (hx : xE r a = some x.toInt) (hy : xE r b = some y.toInt) : xok P h0 h r (ximul S a b) (x * y) := by
  unfold ximul
  split
  · rename_i c e
    have e := xcon_ok hS.1.2.1.1 e hx
    exact xlin_ok hS (xmul_ok hy) (fun h1 h2 => by rw [Int32.toInt_mul, e]; exact rk_bm h1 h2)
  · split
    · rename_i c e
      have e := xcon_ok hS.1.2.1.1 e hy
      refine xlin_ok hS (xmul_ok hx) (fun h1 h2 => ?_)
      rw [Int32.toInt_mul, e, Int.mul_comm]
      exact rk_bm h1 h2
    · exact xok_new hS (xany_ok _)
theorem x_and {x y : Int32} (hy : 0 ≤ y.toInt) : 0 ≤ (x &&& y).toInt ∧ (x &&& y).toInt ≤ y.toInt := by
  have hm : y.toBitVec.msb = false := by
    cases e : y.toBitVec.msb with
    | false => rfl
    | true =>
      have := BitVec.toInt_eq_msb_cond y.toBitVec
      rw [e, Int32.toInt_toBitVec] at this
      have := y.toBitVec.isLt
      simp only [if_true] at *
      omega
  have ha : (x &&& y).toBitVec.msb = false := by rw [Int32.toBitVec_and, BitVec.msb_and, hm, Bool.and_false]
  have e1 := BitVec.toInt_eq_toNat_of_msb hm
  have e2 := BitVec.toInt_eq_toNat_of_msb ha
  rw [Int32.toInt_toBitVec] at e1 e2
  rw [e1, e2, Int32.toBitVec_and, BitVec.toNat_and]
  have : x.toBitVec.toNat &&& y.toBitVec.toNat ≤ y.toBitVec.toNat := Nat.and_le_right
  omega
theorem x_or {x y : Int32} (hy : 0 ≤ y.toInt) : x.toInt ≤ (x ||| y).toInt := by
  have hm : y.toBitVec.msb = false := by
    cases e : y.toBitVec.msb with
    | false => rfl
    | true =>
      have := BitVec.toInt_eq_msb_cond y.toBitVec
      rw [e, Int32.toInt_toBitVec] at this
      have := y.toBitVec.isLt
      simp only [if_true] at *
      omega
  have ha : (x ||| y).toBitVec.msb = x.toBitVec.msb := by rw [Int32.toBitVec_or, BitVec.msb_or, hm, Bool.or_false]
  have e1 := BitVec.toInt_eq_msb_cond x.toBitVec
  have e2 := BitVec.toInt_eq_msb_cond (x ||| y).toBitVec
  rw [Int32.toInt_toBitVec] at e1 e2
  rw [e1, e2, ha, Int32.toBitVec_or, BitVec.toNat_or]
  have : x.toBitVec.toNat ≤ x.toBitVec.toNat ||| y.toBitVec.toNat := Nat.left_le_or
  split <;> omega
theorem x_or2 {x y : Int32} (h1 : 0 ≤ x.toInt) (h2 : x.toInt ≤ 32767) (h3 : 0 ≤ y.toInt) (h4 : y.toInt ≤ 32767) : 0 ≤ (x ||| y).toInt ∧ (x ||| y).toInt ≤ 32767 := by
  have q : ∀ z : Int32, 0 ≤ z.toInt → z.toBitVec.msb = false ∧ z.toInt = z.toBitVec.toNat := by
    intro z hz
    have hm : z.toBitVec.msb = false := by
      cases e : z.toBitVec.msb with
      | false => rfl
      | true =>
        have := BitVec.toInt_eq_msb_cond z.toBitVec
        rw [e, Int32.toInt_toBitVec] at this
        have := z.toBitVec.isLt
        simp only [if_true] at *
        omega
    have e1 := BitVec.toInt_eq_toNat_of_msb hm
    rw [Int32.toInt_toBitVec] at e1
    exact ⟨hm, e1⟩
  obtain ⟨m1, e1⟩ := q x h1
  obtain ⟨m2, e2⟩ := q y h3
  have ha : (x ||| y).toBitVec.msb = false := by rw [Int32.toBitVec_or, BitVec.msb_or, m1, m2]; rfl
  have e3 := BitVec.toInt_eq_toNat_of_msb ha
  rw [Int32.toInt_toBitVec] at e3
  have := Nat.or_lt_two_pow (x := x.toBitVec.toNat) (y := y.toBitVec.toNat) (n := 15) (by omega) (by omega)
  rw [e3, Int32.toBitVec_or, BitVec.toNat_or]
  omega
theorem xiand_ok (hS : xS P h0 r S h) {a b : xT} {x y : Int32} (hx : xE r a = some x.toInt) (hy : xE r b = some y.toInt) : xok P h0 h r (xiand S a b) (x &&& y) := by
  unfold xiand
  split
  · rename_i c e
    have e := xcon_ok hS.1.2.1.1 e hy
    cases e1 : zle 0 c with
    | false => exact xok_new hS (xany_ok _)
    | true =>
      have q := x_and (x := x) (y := y) (by rw [e]; exact zle_ok e1)
      rw [e] at q
      exact xok_new hS ⟨(0, c), List.mem_cons_self, q.1, q.2⟩
  · exact xok_new hS (xany_ok _)
theorem xior_ok (hS : xS P h0 r S h) {a b : xT} {x y : Int32} (hx : xE r a = some x.toInt) (hy : xE r b = some y.toInt) : xok P h0 h r (xior S a b) (x ||| y) := by
  unfold xior
  cases e : xpr S b with
  | false => exact xok_new hS (xany_ok _)
  | true =>
    have q := x_or (x := x) (y := y) (xpr_ok hS.1 e hy)
    have hb : xinB (x ||| y).toInt (xiob S a b) := by
      unfold xiob
      cases e2 : xin S a [(0, 32767)] && xin S b [(0, 32767)] with
      | false => exact xany_ok _
      | true =>
        rw [Bool.and_eq_true] at e2
        obtain ⟨c, f1, f2, f3⟩ := xin_ok hS.1 e2.1 hx
        obtain ⟨c', f4, f5, f6⟩ := xin_ok hS.1 e2.2 hy
        rw [List.mem_singleton.mp f1] at f2 f3
        rw [List.mem_singleton.mp f4] at f5 f6
        have q2 := x_or2 f2 f3 f5 f6
        exact ⟨(0, 32767), List.mem_cons_self, q2.1, q2.2⟩
    obtain ⟨h1, h2⟩ := xS_new hS hb
    have hp : r <+: r ++ [(x ||| y).toInt] := ⟨_, rfl⟩
    refine ⟨_, hp, ⟨⟨h1.1.1, h1.1.2.1, fun t ht => ?_⟩, h1.2.1, h1.2.2.1, h1.2.2.2⟩, h2⟩
    cases ht with
    | head => exact ⟨_, xsub_ok h2 (xE_mono hp hx), by omega⟩
    | tail _ ht => exact h1.1.2.2 t ht
theorem x_shl1 {y : Int32} (h1 : 0 ≤ y.toInt) (h2 : y.toInt ≤ 14) : 1 ≤ ((1 : Int32) <<< (y &&& 31)).toInt ∧ ((1 : Int32) <<< (y &&& 31)).toInt ≤ 16384 := by
  have hy : y = Int32.ofInt y.toInt := by rw [Int32.ofInt_toInt]
  generalize y.toInt = z at *
  subst hy
  have hz : z = 0 ∨ z = 1 ∨ z = 2 ∨ z = 3 ∨ z = 4 ∨ z = 5 ∨ z = 6 ∨ z = 7 ∨ z = 8 ∨ z = 9 ∨ z = 10 ∨ z = 11 ∨ z = 12 ∨ z = 13 ∨ z = 14 := by omega
  rcases hz with rfl | rfl | rfl | rfl | rfl | rfl | rfl | rfl | rfl | rfl | rfl | rfl | rfl | rfl | rfl <;> decide
theorem xishl_ok (hS : xS P h0 r S h) {a b : xT} {x y : Int32} (hx : xE r a = some x.toInt) (hy : xE r b = some y.toInt) : xok P h0 h r (xishl S a b) (x <<< (y &&& 31)) := by
  unfold xishl
  split
  · rename_i c e
    have e := xcon_ok hS.1.2.1.1 e hx
    cases e1 : zeq c 1 && (xpr S b && xpr S (xadc 14 (xscl (-1) b))) with
    | false => exact xok_new hS (xany_ok _)
    | true =>
      rw [Bool.and_eq_true, Bool.and_eq_true] at e1
      have e2 := zeq_ok e1.1
      have q1 := xpr_ok hS.1 e1.2.1 hy
      have q2 := xpr_ok hS.1 e1.2.2 (xadc_ok hS.1.2.1.1 (xscl_ok hy))
      have hx1 : x = 1 := Int32.toInt_inj.mp (by rw [e, e2]; rfl)
      subst hx1
      have q := x_shl1 q1 (by omega)
      exact xok_new hS ⟨(1, 16384), List.mem_cons_self, q.1, q.2⟩
  · exact xok_new hS (xany_ok _)
theorem xoth_ok (hS : xS P h0 r S h) {a b : xT} {w : Int32} : xok P h0 h r (xoth S a b) w := xok_new hS (xany_ok _)
/-- a quotient by a number that is known and positive; else by one that isn't 0 -/
def xnz (S : xW) (t : xT) : Bool := xpr S (xadc (-1) t) || (xpr S (xadc (-1) (xscl (-1) t)) || (match t with
  | [p] => !Nat.beq p.1 0 && (zeq p.2 1 && (match rk_find S.2.1 p.1 with
    | some b => b.all (fun c => zle 1 c.1 || zle c.2 (-1))
    | none => false))
  | _ => false))
theorem xnz_ok (hF : xF r S) {t : xT} {y : Int} (h : xnz S t = true) (hy : xE r t = some y) : y ≠ 0 := by
  unfold xnz at h
  rw [Bool.or_eq_true, Bool.or_eq_true] at h
  rcases h with h | h | h
  · have := xpr_ok hF h (xadc_ok hF.2.1.1 hy); omega
  · have := xpr_ok hF h (xadc_ok hF.2.1.1 (xscl_ok hy)); omega
  · split at h
    · rename_i p
      rw [Bool.and_eq_true, Bool.and_eq_true] at h
      obtain ⟨-, h1, h2⟩ := h
      split at h2
      · rename_i b hb
        obtain ⟨x, g1, c, g2, g3, g4⟩ := hF.2.1.2 _ b hb
        have q := List.all_eq_true.mp h2 c g2
        rw [Bool.or_eq_true] at q
        obtain ⟨x', z, e1, e2, rfl⟩ := xE_cons hy
        cases e1.symm.trans g1
        cases e2
        rw [zeq_ok h1]
        rcases q with q | q <;> have := zle_ok q <;> omega
      · cases h2
    · cases h
/-- the one quotient that the bounds leave -/
def xquo (S : xW) (x : xT) (c : Int) : Option Int := match xlo S.2.1 x, xlo S.2.1 (xscl (-1) x) with
  | some l, some u => bif zle 0 l && zeq (l / c) ((-u) / c) then some (l / c) else none
  | _, _ => none
theorem xquo_ok (hF : xF r S) {x : xT} {c q y : Int} (hc : 1 ≤ c) (h : xquo S x c = some q) (hy : xE r x = some y) : 0 ≤ y ∧ y.tdiv c = q ∧ y.tmod c = y - c * q := by
  unfold xquo at h
  split at h
  · rename_i l u h1 h2
    cases e : zle 0 l && zeq (l / c) ((-u) / c) with
    | false => rw [e] at h; cases h
    | true =>
      rw [e] at h
      cases h
      rw [Bool.and_eq_true] at e
      have q1 := zle_ok e.1
      have q2 := zeq_ok e.2
      have q3 := xlo_ok hF.2.1 h1 hy
      have q4 := xlo_ok hF.2.1 h2 (xscl_ok (c := -1) hy)
      have q5 := Int.ediv_le_ediv (c := c) (by omega) q3
      have q6 := Int.ediv_le_ediv (c := c) (a := y) (b := -u) (by omega) (by omega)
      have q7 : y / c = l / c := by omega
      have q8 : y.tdiv c = l / c := by rw [Int.tdiv_eq_ediv_of_nonneg (by omega), q7]
      refine ⟨by omega, q8, ?_⟩
      rw [Int.tmod_def, q8]
  · cases h
def xidiv (S : xW) (x y : xT) : Option xO := match xcon y with
  | some c => bif zle 1 c then (match xquo S x c with
    | some q => some (xcst q, S)
    | none => some ([(S.1, 1)], S.1 + 1, (S.1, xany) :: S.2.1, xadc (c - 1) (xsub x [(S.1, c)]) :: xadc (c - 1) (xsub [(S.1, c)] x) :: S.2.2.1, S.2.2.2)) else none
  | none => bif xnz S y then some ([(S.1, 1)], xnew S xany) else none
theorem x_div {x y : Int32} {c : Int} (hy : y.toInt = c) (hc : 1 ≤ c) : (x / y).toInt = x.toInt.tdiv c ∧ (x - x / y * y).toInt = x.toInt.tmod c := by
  have hne : y ≠ -1 := fun e => by rw [e] at hy; have : (-1 : Int32).toInt = -1 := rfl; omega
  have e1 : (x / y).toInt = x.toInt.tdiv c := by rw [Int32.toInt_div_of_ne_right _ _ hne, hy]
  have q := Int.tdiv_mul_add_tmod x.toInt c
  have b1 := Int.tmod_lt_of_pos x.toInt (b := c) (by omega)
  have b2 := Int.lt_tmod_of_pos x.toInt (b := c) (by omega)
  have b3 := Int32.le_toInt x
  have b4 := Int32.toInt_lt x
  have b5 := Int32.toInt_lt y
  have hn : x.toInt.tdiv c * c = x.toInt - x.toInt.tmod c := by omega
  have hpos : 0 ≤ x.toInt → 0 ≤ x.toInt.tmod c := fun z => Int.tmod_nonneg c z
  have hneg : x.toInt ≤ 0 → x.toInt.tmod c ≤ 0 := fun z => by
    have := Int.tmod_nonneg (a := -x.toInt) c (by omega)
    rw [Int.neg_tmod] at this
    omega
  have e2 : (x / y * y).toInt = x.toInt - x.toInt.tmod c := by
    rw [Int32.toInt_mul, e1, hy, hn]
    refine rk_bm ?_ ?_
    · by_cases z : 0 ≤ x.toInt
      · have := hpos z
        have : 0 ≤ x.toInt.tdiv c * c := Int.mul_nonneg (Int.tdiv_nonneg z (by omega)) (by omega)
        omega
      · have := hneg (by omega); omega
    · by_cases z : 0 ≤ x.toInt
      · have := hpos z; omega
      · have : x.toInt.tdiv c * c ≤ 0 := by
          have := Int.mul_nonneg (Int.tdiv_nonneg (a := -x.toInt) (b := c) (by omega) (by omega)) (show (0 : Int) ≤ c by omega)
          rw [Int.neg_tdiv, Int.neg_mul] at this
          omega
        omega
  refine ⟨e1, ?_⟩
  rw [Int32.toInt_sub, e2]
  rw [show x.toInt - (x.toInt - x.toInt.tmod c) = x.toInt.tmod c by omega]
  exact rk_bm (by omega) (by omega)
theorem xidiv_ok (hS : xS P h0 r S h) {a b : xT} {o : xO} {x y : Int32} (ho : xidiv S a b = some o) (hx : xE r a = some x.toInt) (hy : xE r b = some y.toInt) : ¬ y = 0 ∧ xok P h0 h r o (x / y) := by
  unfold xidiv at ho
  split at ho
  · rename_i c e
    have e := xcon_ok hS.1.2.1.1 e hy
    cases e1 : zle 1 c with
    | false => rw [e1] at ho; cases ho
    | true =>
      rw [e1] at ho
      dsimp only [cond] at ho
      have hc := zle_ok e1
      obtain ⟨q, -⟩ := x_div (x := x) e hc
      have hy0 : ¬ y = 0 := fun z => by
        rw [z] at e
        have : (0 : Int32).toInt = 0 := rfl
        omega
      split at ho
      · rename_i q0 hq0
        cases ho
        obtain ⟨-, k1, -⟩ := xquo_ok hS.1 hc hq0 hx
        exact ⟨hy0, r, ⟨[], List.append_nil r⟩, hS, by rw [q, k1]; exact xcst_ok hS.1.2.1.1 _⟩
      cases ho
      have b1 := Int.tmod_lt_of_pos x.toInt (b := c) (by omega)
      have b2 := Int.lt_tmod_of_pos x.toInt (b := c) (by omega)
      have b3 := Int.mul_tdiv_add_tmod x.toInt c
      obtain ⟨h1, h2⟩ := xS_new hS (xany_ok (x / y))
      have hp : r <+: r ++ [(x / y).toInt] := ⟨_, rfl⟩
      have h3 : xE (r ++ [(x / y).toInt]) [(S.1, c)] = some (c * (x / y).toInt) := by
        obtain ⟨u, v, g1, g2, g3⟩ := xE_cons h2
        cases g2
        rw [xE_mk (p := (S.1, c)) g1 rfl, g3]
        congr 1
        dsimp only
        rw [Int.one_mul, Int.add_zero, Int.add_zero]
      refine ⟨fun z => ?_, _, hp, ⟨⟨h1.1.1, h1.1.2.1, fun t ht => ?_⟩, h1.2.1, h1.2.2.1, h1.2.2.2⟩, h2⟩
      · rw [z] at e
        have : (0 : Int32).toInt = 0 := rfl
        omega
      · have h3 : xE (r ++ [(x / y).toInt]) [(S.1, c)] = some (c * x.toInt.tdiv c) := by rw [h3, q]
        cases ht with
        | head => exact ⟨_, xadc_ok h1.1.2.1.1 (xsub_ok (xE_mono hp hx) h3), by omega⟩
        | tail _ ht =>
          cases ht with
          | head => exact ⟨_, xadc_ok h1.1.2.1.1 (xsub_ok h3 (xE_mono hp hx)), by omega⟩
          | tail _ ht => exact h1.1.2.2 t ht
  · cases e : xnz S b with
    | false => rw [e] at ho; cases ho
    | true =>
      rw [e] at ho
      cases ho
      refine ⟨fun z => xnz_ok hS.1 e hy (by rw [z]; rfl), xok_new hS (xany_ok _)⟩
def xirem (S : xW) (x y : xT) : Option xO := match xcon y with
  | some c => bif zle 1 c then (match xquo S x c with
    | some q => some (xadc (-(c * q)) x, S)
    | none => some ([(S.1, 1)], xnew S [((bif xpr S x then 0 else 1 - c), c - 1)])) else none
  | none => none
theorem xirem_ok (hS : xS P h0 r S h) {a b : xT} {o : xO} {x y : Int32} (ho : xirem S a b = some o) (hx : xE r a = some x.toInt) (hy : xE r b = some y.toInt) : ¬ y = 0 ∧ xok P h0 h r o (x - x / y * y) := by
  unfold xirem at ho
  split at ho
  · rename_i c e
    have e := xcon_ok hS.1.2.1.1 e hy
    cases e1 : zle 1 c with
    | false => rw [e1] at ho; cases ho
    | true =>
      rw [e1] at ho
      dsimp only [cond] at ho
      have hc := zle_ok e1
      obtain ⟨-, q⟩ := x_div (x := x) e hc
      have hy0 : ¬ y = 0 := fun z => by
        rw [z] at e
        have : (0 : Int32).toInt = 0 := rfl
        omega
      split at ho
      · rename_i q0 hq0
        cases ho
        obtain ⟨-, -, k1⟩ := xquo_ok hS.1 hc hq0 hx
        refine ⟨hy0, r, ⟨[], List.append_nil r⟩, hS, ?_⟩
        rw [q, k1, xadc_ok hS.1.2.1.1 hx]
        congr 1
        omega
      cases ho
      have b1 := Int.tmod_lt_of_pos x.toInt (b := c) (by omega)
      have b2 := Int.lt_tmod_of_pos x.toInt (b := c) (by omega)
      refine ⟨fun z => ?_, xok_new hS ⟨_, List.mem_cons_self, ?_, ?_⟩⟩
      · rw [z] at e
        have : (0 : Int32).toInt = 0 := rfl
        omega
      · rw [q]
        dsimp only
        cases e2 : xpr S a with
        | true => exact Int.tmod_nonneg c (xpr_ok hS.1 e2 hx)
        | false => dsimp only [cond]; omega
      · rw [q]
        dsimp only
        omega
  · cases ho
end RKX
