/-! bits -/
def bt (x : Int32) (b : Nat) : Bool := x.toBitVec.getLsbD b
theorem bt_ext {x y : Int32} (h : ∀ b, b < 32 → bt x b = bt y b) : x = y := Int32.toBitVec.inj (BitVec.eq_of_getLsbD_eq_iff.mpr h)
theorem bt_or (x y : Int32) (b : Nat) : bt (x ||| y) b = (bt x b || bt y b) := by
  unfold bt
  rw [Int32.toBitVec_or, BitVec.getLsbD_or]
theorem bt_and (x y : Int32) (b : Nat) : bt (x &&& y) b = (bt x b && bt y b) := by
  unfold bt
  rw [Int32.toBitVec_and, BitVec.getLsbD_and]
theorem bt_zero (b : Nat) : bt 0 b = false := by
  unfold bt
  rw [Int32.toBitVec_zero]
  exact BitVec.getLsbD_zero
theorem bt_big {x : Int32} {b : Nat} (h : 32 ≤ b) : bt x b = false := BitVec.getLsbD_of_ge _ _ h
theorem bt_one (b : Nat) : bt 1 b = decide (b = 0) := by
  unfold bt
  rw [Int32.toBitVec_one, BitVec.getLsbD_one]
  simp
theorem bt_two (b : Nat) : bt 2 b = decide (b = 1) := by
  by_cases h : b < 32
  · have : ∀ b : Fin 32, bt 2 b.val = decide (b.val = 1) := by decide +kernel
    exact this ⟨b, h⟩
  · rw [bt_big (by omega), decide_eq_false (by omega)]
theorem y_sm {j : Int32} (h0 : 0 ≤ j.toInt) (h1 : j.toInt < 32) : ((j &&& 31).toBitVec.smod 32).toNat = j.toInt.toNat := by
  have key : ∀ z : Fin 32, ((Int32.ofInt (z.val : Int) &&& 31).toBitVec.smod 32).toNat = z.val := by decide +kernel
  have := key ⟨j.toInt.toNat, by omega⟩
  dsimp only at this
  rw [Int.toNat_of_nonneg h0, Int32.ofInt_toInt] at this
  exact this
theorem bt_shr {x j : Int32} (h0 : 0 ≤ j.toInt) (h1 : j.toInt < 32) : bt (x >>> (j &&& 31)) 0 = bt x j.toInt.toNat := by
  unfold bt
  rw [Int32.toBitVec_shiftRight, BitVec.sshiftRight_eq', y_sm h0 h1, BitVec.getLsbD_sshiftRight, if_pos (by omega)]
  simp
theorem bt_shl {j : Int32} (h0 : 0 ≤ j.toInt) (h1 : j.toInt < 32) (b : Nat) : bt ((1 : Int32) <<< (j &&& 31)) b = decide (b = j.toInt.toNat) := by
  unfold bt
  rw [Int32.toBitVec_shiftLeft, BitVec.getLsbD_shiftLeft', y_sm h0 h1, Int32.toBitVec_one, BitVec.getLsbD_one, Bool.eq_iff_iff]
  simp only [Bool.and_eq_true, decide_eq_true_eq, Bool.not_eq_true', decide_eq_false_iff_not]
  omega
theorem y_bit {x j : Int32} (h0 : 0 ≤ j.toInt) (h1 : j.toInt < 32) : ((x >>> (j &&& 31)) &&& (1 : Int32)).toInt = 0 ↔ bt x j.toInt.toNat = false := by
  constructor
  · intro h
    have e : ((x >>> (j &&& 31)) &&& (1 : Int32)) = 0 := Int32.toInt_inj.mp h
    have e2 : bt ((x >>> (j &&& 31)) &&& (1 : Int32)) 0 = bt 0 0 := congrArg (fun z => bt z 0) e
    rw [bt_and, bt_one, bt_shr h0 h1, bt_zero] at e2
    simpa using e2
  · intro h
    have e : ((x >>> (j &&& 31)) &&& (1 : Int32)) = 0 := by
      refine bt_ext (fun b _ => ?_)
      rw [bt_and, bt_one, bt_zero]
      by_cases e : b = 0
      · subst e
        rw [bt_shr h0 h1, h]
        rfl
      · rw [decide_eq_false e, Bool.and_false]
    rw [e]
    rfl
theorem y_bit1 {x j : Int32} (h0 : 0 ≤ j.toInt) (h1 : j.toInt < 32) : ((x >>> (j &&& 31)) &&& (1 : Int32)).toInt = 1 ↔ bt x j.toInt.toNat = true := by
  have q := x_and (x := x >>> (j &&& 31)) (y := (1 : Int32)) (by decide)
  have q2 : (1 : Int32).toInt = 1 := rfl
  have q3 := y_bit (x := x) h0 h1
  constructor
  · intro h
    cases e : bt x j.toInt.toNat with
    | true => rfl
    | false =>
      have := q3.mpr e
      omega
  · intro h
    have : ¬ ((x >>> (j &&& 31)) &&& (1 : Int32)).toInt = 0 := fun z => by
      rw [q3.mp z] at h
      cases h
    omega
theorem y_ix {j : Int32} {k : Nat} (h : j.toInt = k) : j.toNatClampNeg = k := by
  have := rk_clamp (j := j) (by omega)
  omega
theorem y_inc {j : Int32} {k : Nat} (h : j.toInt = k) (hk : k < 2147483647) : (j + (1 : Int32)).toInt = ((k + 1 : Nat) : Int) := by
  rw [Int32.toInt_add, h, show (1 : Int32).toInt = 1 from rfl, rk_bm (by omega) (by omega)]
  omega
/-- how many of ten -/
def c10 (X : Nat → Bool) : Nat := (X 0).toNat + (X 1).toNat + (X 2).toNat + (X 3).toNat + (X 4).toNat + (X 5).toNat + (X 6).toNat + (X 7).toNat + (X 8).toNat + (X 9).toNat
theorem c10_lt {X Y : Nat → Bool} (h : ∀ r, r < 10 → X r = true → Y r = true) {r : Nat} (hr : r < 10) (h1 : X r = false) (h2 : Y r = true) : c10 X + 1 ≤ c10 Y := by
  have q : ∀ i, i < 10 → (X i).toNat ≤ (Y i).toNat := by
    intro i hi
    cases e : X i with
    | false => exact Nat.zero_le _
    | true => rw [h i hi e]; exact Nat.le_refl _
  have e1 : (X r).toNat = 0 := by rw [h1]; rfl
  have e2 : (Y r).toNat = 1 := by rw [h2]; rfl
  have q0 := q 0 (by decide)
  have q1 := q 1 (by decide)
  have q2 := q 2 (by decide)
  have q3 := q 3 (by decide)
  have q4 := q 4 (by decide)
  have q5 := q 5 (by decide)
  have q6 := q 6 (by decide)
  have q7 := q 7 (by decide)
  have q8 := q 8 (by decide)
  have q9 := q 9 (by decide)
  unfold c10
  have hr : r = 0 ∨ r = 1 ∨ r = 2 ∨ r = 3 ∨ r = 4 ∨ r = 5 ∨ r = 6 ∨ r = 7 ∨ r = 8 ∨ r = 9 := by omega
  rcases hr with rfl | rfl | rfl | rfl | rfl | rfl | rfl | rfl | rfl | rfl <;> omega
theorem c10_le {X : Nat → Bool} {N : Nat} (h : ∀ r, r < 10 → X r = true → r < N) : c10 X ≤ N := by
  have q : ∀ i, i < 10 → (X i).toNat ≤ 1 ∧ (N ≤ i → (X i).toNat = 0) := by
    intro i hi
    cases e : X i with
    | false => exact ⟨Nat.zero_le _, fun _ => rfl⟩
    | true =>
      have := h i hi e
      exact ⟨Nat.le_refl _, fun z => by omega⟩
  have q0 := q 0 (by decide)
  have q1 := q 1 (by decide)
  have q2 := q 2 (by decide)
  have q3 := q 3 (by decide)
  have q4 := q 4 (by decide)
  have q5 := q 5 (by decide)
  have q6 := q 6 (by decide)
  have q7 := q 7 (by decide)
  have q8 := q 8 (by decide)
  have q9 := q 9 (by decide)
  unfold c10
  omega
theorem c10_pos {X : Nat → Bool} {r : Nat} (hr : r < 10) (h : X r = true) : 1 ≤ c10 X := by
  have e2 : (X r).toNat = 1 := by rw [h]; rfl
  unfold c10
  have hr : r = 0 ∨ r = 1 ∨ r = 2 ∨ r = 3 ∨ r = 4 ∨ r = 5 ∨ r = 6 ∨ r = 7 ∨ r = 8 ∨ r = 9 := by omega
  rcases hr with rfl | rfl | rfl | rfl | rfl | rfl | rfl | rfl | rfl | rfl <;> omega
