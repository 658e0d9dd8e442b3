/-! an answer that is known -/
theorem x_ans {h' : rk_S} {rt : List Int} {t : xT} {z : Int} {x : Int32} (hh : xHold rt h' (some (.int x)) ([none], t)) (ht : xE (1 :: (rt ++ [x.toInt])) t = some z) : 0 ≤ z := by
  obtain ⟨y, g1, z', g2, g3⟩ := x_fv hh
  cases g1
  cases g2.symm.trans ht
  exact g3
