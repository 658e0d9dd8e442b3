/-! what class and reference share: the program, and what each routine may do -/
def lJ (h : rk_S) : Prop := lC3 h ∧ K1 h
def lkeep (b k : Nat) : Prop := b = 2 ∨ (4 ≤ b ∧ b ≤ 17) ∨ (b = 316 ∧ k = 0) ∨ b = 317 ∨ b = 318
theorem lJ_eq {h h' : rk_S} (he : ∀ b k, lkeep b k → rk_get h' b k = rk_get h b k) (hJ : lJ h) : lJ h' := ⟨lC3_eq (fun b k hb => rk_iv_eq (he b k (by unfold lkeep; omega))) hJ.1, K1_eq (fun b k h4 h17 => he b k (by unfold lkeep; omega)) hJ.2⟩
