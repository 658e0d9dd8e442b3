/-! pieces of code, acting, reads (laid by wip/gen/y8.py) -/
set_option maxRecDepth 100000 in
set_option maxHeartbeats 4000000 in
theorem yt_isC {n d : Nat} {h : rk_S} {o : Option Value × rk_S} {c : Int32} (hG : yG h) (E : rk_ex n d rm_X7_isCode 0 [(0, .int c)] [] h = some o) :
    (c.toInt < 0 ∧ yG h ∧ o = (some (.int (0 : Int32)), h)) ∨
    (¬ (c.toInt < 0) ∧ c.toInt ≤ 620 ∧ (c / (100 : Int32)).toInt < 0 ∧ (c - c / (100 : Int32) * (100 : Int32)).toInt < 1 ∧ yG h ∧ o = (some (.int (0 : Int32)), h)) ∨
    (¬ (c.toInt < 0) ∧ c.toInt ≤ 620 ∧ (c / (100 : Int32)).toInt < 0 ∧ ¬ ((c - c / (100 : Int32) * (100 : Int32)).toInt < 1) ∧ 20 < (c - c / (100 : Int32) * (100 : Int32)).toInt ∧ yG h ∧ o = (some (.int (0 : Int32)), h)) ∨
    (¬ (c.toInt < 0) ∧ c.toInt ≤ 620 ∧ (c / (100 : Int32)).toInt < 0 ∧ ¬ ((c - c / (100 : Int32) * (100 : Int32)).toInt < 1) ∧ ¬ (20 < (c - c / (100 : Int32) * (100 : Int32)).toInt) ∧ yG h ∧ o = (some (.int (1 : Int32)), h)) ∨
    (¬ (c.toInt < 0) ∧ c.toInt ≤ 620 ∧ 5 < (c / (100 : Int32)).toInt ∧ (c - c / (100 : Int32) * (100 : Int32)).toInt < 1 ∧ yG h ∧ o = (some (.int (0 : Int32)), h)) ∨
    (¬ (c.toInt < 0) ∧ c.toInt ≤ 620 ∧ 5 < (c / (100 : Int32)).toInt ∧ ¬ ((c - c / (100 : Int32) * (100 : Int32)).toInt < 1) ∧ 20 < (c - c / (100 : Int32) * (100 : Int32)).toInt ∧ yG h ∧ o = (some (.int (0 : Int32)), h)) ∨
    (¬ (c.toInt < 0) ∧ c.toInt ≤ 620 ∧ 5 < (c / (100 : Int32)).toInt ∧ ¬ ((c - c / (100 : Int32) * (100 : Int32)).toInt < 1) ∧ ¬ (20 < (c - c / (100 : Int32) * (100 : Int32)).toInt) ∧ yG h ∧ o = (some (.int (1 : Int32)), h)) ∨
    (¬ (c.toInt < 0) ∧ c.toInt ≤ 620 ∧ (c / (100 : Int32)).toInt = 0 ∧ yG h ∧ o = (some (.int (1 : Int32)), h)) ∨
    (¬ (c.toInt < 0) ∧ c.toInt ≤ 620 ∧ (c / (100 : Int32)).toInt = 1 ∧ 3 ≤ (c - c / (100 : Int32) * (100 : Int32)).toInt ∧ yG h ∧ o = (some (.int (0 : Int32)), h)) ∨
    (¬ (c.toInt < 0) ∧ c.toInt ≤ 620 ∧ (c / (100 : Int32)).toInt = 1 ∧ ¬ (3 ≤ (c - c / (100 : Int32) * (100 : Int32)).toInt) ∧ yG h ∧ o = (some (.int (1 : Int32)), h)) ∨
    (¬ (c.toInt < 0) ∧ c.toInt ≤ 620 ∧ (c / (100 : Int32)).toInt = 2 ∧ 16 ≤ (c - c / (100 : Int32) * (100 : Int32)).toInt ∧ yG h ∧ o = (some (.int (0 : Int32)), h)) ∨
    (¬ (c.toInt < 0) ∧ c.toInt ≤ 620 ∧ (c / (100 : Int32)).toInt = 2 ∧ ¬ (16 ≤ (c - c / (100 : Int32) * (100 : Int32)).toInt) ∧ yG h ∧ o = (some (.int (1 : Int32)), h)) ∨
    (¬ (c.toInt < 0) ∧ c.toInt ≤ 620 ∧ (c / (100 : Int32)).toInt = 3 ∧ 16 ≤ (c - c / (100 : Int32) * (100 : Int32)).toInt ∧ yG h ∧ o = (some (.int (0 : Int32)), h)) ∨
    (¬ (c.toInt < 0) ∧ c.toInt ≤ 620 ∧ (c / (100 : Int32)).toInt = 3 ∧ ¬ (16 ≤ (c - c / (100 : Int32) * (100 : Int32)).toInt) ∧ yG h ∧ o = (some (.int (1 : Int32)), h)) ∨
    (¬ (c.toInt < 0) ∧ c.toInt ≤ 620 ∧ (c / (100 : Int32)).toInt = 4 ∧ 10 ≤ (c - c / (100 : Int32) * (100 : Int32)).toInt ∧ yG h ∧ o = (some (.int (0 : Int32)), h)) ∨
    (¬ (c.toInt < 0) ∧ c.toInt ≤ 620 ∧ (c / (100 : Int32)).toInt = 4 ∧ ¬ (10 ≤ (c - c / (100 : Int32) * (100 : Int32)).toInt) ∧ yG h ∧ o = (some (.int (1 : Int32)), h)) ∨
    (¬ (c.toInt < 0) ∧ c.toInt ≤ 620 ∧ (c / (100 : Int32)).toInt = 5 ∧ 8 < (c - c / (100 : Int32) * (100 : Int32)).toInt ∧ yG h ∧ o = (some (.int (0 : Int32)), h)) ∨
    (¬ (c.toInt < 0) ∧ c.toInt ≤ 620 ∧ (c / (100 : Int32)).toInt = 5 ∧ ¬ (8 < (c - c / (100 : Int32) * (100 : Int32)).toInt) ∧ yG h ∧ o = (some (.int (1 : Int32)), h)) ∨
    (¬ (c.toInt < 0) ∧ ¬ (c.toInt ≤ 620) ∧ yG h ∧ o = (some (.int (0 : Int32)), h)) := by
  obtain ⟨m1, hm2, E, hG⟩ := E_go (pc' := 1) (lv' := [(0, .int c)]) (st' := [.int c]) (h' := h) 1 rfl E hG
  rcases E_if1 (tg := 11) rfl rfl E with ⟨hc, m3, hm4, E⟩ | ⟨hc, m5, hm6, E⟩
  ·
    have c7 : c.toInt < 0 := hc
    clear hc
    obtain ⟨m8, hm9, E, hG⟩ := E_go (pc' := 12) (lv' := [(0, .int c)]) (st' := [.int (0 : Int32)]) (h' := h) 1 rfl E hG
    have ho10 := E_reti rfl E
    exact Or.inl ⟨c7, hG, ho10⟩
  ·
    have c11 : ¬ (c.toInt < 0) := hc
    clear hc
    obtain ⟨m12, hm13, E, hG⟩ := E_go (pc' := 8) (lv' := [(0, .int c)]) (st' := [.int (620 : Int32), .int c]) (h' := h) 2 rfl E hG
    rcases E_if2 (tg := 13) rfl rfl E with ⟨hc, m14, hm15, E⟩ | ⟨hc, m16, hm17, E⟩
    ·
      have c18 : c.toInt ≤ 620 := hc
      clear hc
      obtain ⟨m19, hm20, E, hG⟩ := E_go (pc' := 22) (lv' := [(1, .int (c - c / (100 : Int32) * (100 : Int32))), (0, .int c)]) (st' := [.int (c / (100 : Int32))]) (h' := h) 7 rfl E hG
      rcases (show (c / (100 : Int32)).toInt < 0 ∨ 5 < (c / (100 : Int32)).toInt ∨ (c / (100 : Int32)).toInt = 0 ∨ (c / (100 : Int32)).toInt = 1 ∨ (c / (100 : Int32)).toInt = 2 ∨ (c / (100 : Int32)).toInt = 3 ∨ (c / (100 : Int32)).toInt = 4 ∨ (c / (100 : Int32)).toInt = 5 by omega) with hc | hc | hc | hc | hc | hc | hc | hc
      ·
        have c21 : (c / (100 : Int32)).toInt < 0 := hc
        clear hc
        obtain ⟨m22, hm23, E⟩ := E_swd (tg := 121) rfl (Or.inl c21) rfl E
        obtain ⟨m24, hm25, E, hG⟩ := E_go (pc' := 123) (lv' := [(1, .int (c - c / (100 : Int32) * (100 : Int32))), (0, .int c)]) (st' := [.int (1 : Int32), .int (c - c / (100 : Int32) * (100 : Int32))]) (h' := h) 2 rfl E hG
        rcases E_if2 (tg := 136) rfl rfl E with ⟨hc, m26, hm27, E⟩ | ⟨hc, m28, hm29, E⟩
        ·
          have c30 : (c - c / (100 : Int32) * (100 : Int32)).toInt < 1 := hc
          clear hc
          obtain ⟨m31, hm32, E, hG⟩ := E_go (pc' := 137) (lv' := [(1, .int (c - c / (100 : Int32) * (100 : Int32))), (0, .int c)]) (st' := [.int (0 : Int32)]) (h' := h) 1 rfl E hG
          have ho33 := E_reti rfl E
          exact Or.inr (Or.inl ⟨c11, c18, c21, c30, hG, ho33⟩)
        ·
          have c34 : ¬ ((c - c / (100 : Int32) * (100 : Int32)).toInt < 1) := hc
          clear hc
          obtain ⟨m35, hm36, E, hG⟩ := E_go (pc' := 129) (lv' := [(1, .int (c - c / (100 : Int32) * (100 : Int32))), (0, .int c)]) (st' := [.int (20 : Int32), .int (c - c / (100 : Int32) * (100 : Int32))]) (h' := h) 2 rfl E hG
          rcases E_if2 (tg := 136) rfl rfl E with ⟨hc, m37, hm38, E⟩ | ⟨hc, m39, hm40, E⟩
          ·
            have c41 : 20 < (c - c / (100 : Int32) * (100 : Int32)).toInt := hc
            clear hc
            obtain ⟨m42, hm43, E, hG⟩ := E_go (pc' := 137) (lv' := [(1, .int (c - c / (100 : Int32) * (100 : Int32))), (0, .int c)]) (st' := [.int (0 : Int32)]) (h' := h) 1 rfl E hG
            have ho44 := E_reti rfl E
            exact Or.inr (Or.inr (Or.inl ⟨c11, c18, c21, c34, c41, hG, ho44⟩))
          ·
            have c45 : ¬ (20 < (c - c / (100 : Int32) * (100 : Int32)).toInt) := hc
            clear hc
            obtain ⟨m46, hm47, E, hG⟩ := E_go (pc' := 137) (lv' := [(1, .int (c - c / (100 : Int32) * (100 : Int32))), (0, .int c)]) (st' := [.int (1 : Int32)]) (h' := h) 2 rfl E hG
            have ho48 := E_reti rfl E
            exact Or.inr (Or.inr (Or.inr (Or.inl ⟨c11, c18, c21, c34, c45, hG, ho48⟩)))
      ·
        have c49 : 5 < (c / (100 : Int32)).toInt := hc
        clear hc
        obtain ⟨m50, hm51, E⟩ := E_swd (tg := 121) rfl (Or.inr c49) rfl E
        obtain ⟨m52, hm53, E, hG⟩ := E_go (pc' := 123) (lv' := [(1, .int (c - c / (100 : Int32) * (100 : Int32))), (0, .int c)]) (st' := [.int (1 : Int32), .int (c - c / (100 : Int32) * (100 : Int32))]) (h' := h) 2 rfl E hG
        rcases E_if2 (tg := 136) rfl rfl E with ⟨hc, m54, hm55, E⟩ | ⟨hc, m56, hm57, E⟩
        ·
          have c58 : (c - c / (100 : Int32) * (100 : Int32)).toInt < 1 := hc
          clear hc
          obtain ⟨m59, hm60, E, hG⟩ := E_go (pc' := 137) (lv' := [(1, .int (c - c / (100 : Int32) * (100 : Int32))), (0, .int c)]) (st' := [.int (0 : Int32)]) (h' := h) 1 rfl E hG
          have ho61 := E_reti rfl E
          exact Or.inr (Or.inr (Or.inr (Or.inr (Or.inl ⟨c11, c18, c49, c58, hG, ho61⟩))))
        ·
          have c62 : ¬ ((c - c / (100 : Int32) * (100 : Int32)).toInt < 1) := hc
          clear hc
          obtain ⟨m63, hm64, E, hG⟩ := E_go (pc' := 129) (lv' := [(1, .int (c - c / (100 : Int32) * (100 : Int32))), (0, .int c)]) (st' := [.int (20 : Int32), .int (c - c / (100 : Int32) * (100 : Int32))]) (h' := h) 2 rfl E hG
          rcases E_if2 (tg := 136) rfl rfl E with ⟨hc, m65, hm66, E⟩ | ⟨hc, m67, hm68, E⟩
          ·
            have c69 : 20 < (c - c / (100 : Int32) * (100 : Int32)).toInt := hc
            clear hc
            obtain ⟨m70, hm71, E, hG⟩ := E_go (pc' := 137) (lv' := [(1, .int (c - c / (100 : Int32) * (100 : Int32))), (0, .int c)]) (st' := [.int (0 : Int32)]) (h' := h) 1 rfl E hG
            have ho72 := E_reti rfl E
            exact Or.inr (Or.inr (Or.inr (Or.inr (Or.inr (Or.inl ⟨c11, c18, c49, c62, c69, hG, ho72⟩)))))
          ·
            have c73 : ¬ (20 < (c - c / (100 : Int32) * (100 : Int32)).toInt) := hc
            clear hc
            obtain ⟨m74, hm75, E, hG⟩ := E_go (pc' := 137) (lv' := [(1, .int (c - c / (100 : Int32) * (100 : Int32))), (0, .int c)]) (st' := [.int (1 : Int32)]) (h' := h) 2 rfl E hG
            have ho76 := E_reti rfl E
            exact Or.inr (Or.inr (Or.inr (Or.inr (Or.inr (Or.inr (Or.inl ⟨c11, c18, c49, c62, c73, hG, ho76⟩))))))
      ·
        have c77 : (c / (100 : Int32)).toInt = 0 := hc
        clear hc
        obtain ⟨m78, hm79, E⟩ := E_swi (tg := 60) rfl c77 (by decide) (by decide) rfl rfl E
        obtain ⟨m80, hm81, E, hG⟩ := E_go (pc' := 61) (lv' := [(1, .int (c - c / (100 : Int32) * (100 : Int32))), (0, .int c)]) (st' := [.int (1 : Int32)]) (h' := h) 1 rfl E hG
        have ho82 := E_reti rfl E
        exact Or.inr (Or.inr (Or.inr (Or.inr (Or.inr (Or.inr (Or.inr (Or.inl ⟨c11, c18, c77, hG, ho82⟩)))))))
      ·
        have c83 : (c / (100 : Int32)).toInt = 1 := hc
        clear hc
        obtain ⟨m84, hm85, E⟩ := E_swi (tg := 62) rfl c83 (by decide) (by decide) rfl rfl E
        obtain ⟨m86, hm87, E, hG⟩ := E_go (pc' := 64) (lv' := [(1, .int (c - c / (100 : Int32) * (100 : Int32))), (0, .int c)]) (st' := [.int (3 : Int32), .int (c - c / (100 : Int32) * (100 : Int32))]) (h' := h) 2 rfl E hG
        rcases E_if2 (tg := 71) rfl rfl E with ⟨hc, m88, hm89, E⟩ | ⟨hc, m90, hm91, E⟩
        ·
          have c92 : 3 ≤ (c - c / (100 : Int32) * (100 : Int32)).toInt := hc
          clear hc
          obtain ⟨m93, hm94, E, hG⟩ := E_go (pc' := 72) (lv' := [(1, .int (c - c / (100 : Int32) * (100 : Int32))), (0, .int c)]) (st' := [.int (0 : Int32)]) (h' := h) 1 rfl E hG
          have ho95 := E_reti rfl E
          exact Or.inr (Or.inr (Or.inr (Or.inr (Or.inr (Or.inr (Or.inr (Or.inr (Or.inl ⟨c11, c18, c83, c92, hG, ho95⟩))))))))
        ·
          have c96 : ¬ (3 ≤ (c - c / (100 : Int32) * (100 : Int32)).toInt) := hc
          clear hc
          obtain ⟨m97, hm98, E, hG⟩ := E_go (pc' := 72) (lv' := [(1, .int (c - c / (100 : Int32) * (100 : Int32))), (0, .int c)]) (st' := [.int (1 : Int32)]) (h' := h) 2 rfl E hG
          have ho99 := E_reti rfl E
          exact Or.inr (Or.inr (Or.inr (Or.inr (Or.inr (Or.inr (Or.inr (Or.inr (Or.inr (Or.inl ⟨c11, c18, c83, c96, hG, ho99⟩)))))))))
      ·
        have c100 : (c / (100 : Int32)).toInt = 2 := hc
        clear hc
        obtain ⟨m101, hm102, E⟩ := E_swi (tg := 73) rfl c100 (by decide) (by decide) rfl rfl E
        obtain ⟨m103, hm104, E, hG⟩ := E_go (pc' := 76) (lv' := [(1, .int (c - c / (100 : Int32) * (100 : Int32))), (0, .int c)]) (st' := [.int (16 : Int32), .int (c - c / (100 : Int32) * (100 : Int32))]) (h' := h) 2 rfl E hG
        rcases E_if2 (tg := 83) rfl rfl E with ⟨hc, m105, hm106, E⟩ | ⟨hc, m107, hm108, E⟩
        ·
          have c109 : 16 ≤ (c - c / (100 : Int32) * (100 : Int32)).toInt := hc
          clear hc
          obtain ⟨m110, hm111, E, hG⟩ := E_go (pc' := 84) (lv' := [(1, .int (c - c / (100 : Int32) * (100 : Int32))), (0, .int c)]) (st' := [.int (0 : Int32)]) (h' := h) 1 rfl E hG
          have ho112 := E_reti rfl E
          exact Or.inr (Or.inr (Or.inr (Or.inr (Or.inr (Or.inr (Or.inr (Or.inr (Or.inr (Or.inr (Or.inl ⟨c11, c18, c100, c109, hG, ho112⟩))))))))))
        ·
          have c113 : ¬ (16 ≤ (c - c / (100 : Int32) * (100 : Int32)).toInt) := hc
          clear hc
          obtain ⟨m114, hm115, E, hG⟩ := E_go (pc' := 84) (lv' := [(1, .int (c - c / (100 : Int32) * (100 : Int32))), (0, .int c)]) (st' := [.int (1 : Int32)]) (h' := h) 2 rfl E hG
          have ho116 := E_reti rfl E
          exact Or.inr (Or.inr (Or.inr (Or.inr (Or.inr (Or.inr (Or.inr (Or.inr (Or.inr (Or.inr (Or.inr (Or.inl ⟨c11, c18, c100, c113, hG, ho116⟩)))))))))))
      ·
        have c117 : (c / (100 : Int32)).toInt = 3 := hc
        clear hc
        obtain ⟨m118, hm119, E⟩ := E_swi (tg := 85) rfl c117 (by decide) (by decide) rfl rfl E
        obtain ⟨m120, hm121, E, hG⟩ := E_go (pc' := 88) (lv' := [(1, .int (c - c / (100 : Int32) * (100 : Int32))), (0, .int c)]) (st' := [.int (16 : Int32), .int (c - c / (100 : Int32) * (100 : Int32))]) (h' := h) 2 rfl E hG
        rcases E_if2 (tg := 95) rfl rfl E with ⟨hc, m122, hm123, E⟩ | ⟨hc, m124, hm125, E⟩
        ·
          have c126 : 16 ≤ (c - c / (100 : Int32) * (100 : Int32)).toInt := hc
          clear hc
          obtain ⟨m127, hm128, E, hG⟩ := E_go (pc' := 96) (lv' := [(1, .int (c - c / (100 : Int32) * (100 : Int32))), (0, .int c)]) (st' := [.int (0 : Int32)]) (h' := h) 1 rfl E hG
          have ho129 := E_reti rfl E
          exact Or.inr (Or.inr (Or.inr (Or.inr (Or.inr (Or.inr (Or.inr (Or.inr (Or.inr (Or.inr (Or.inr (Or.inr (Or.inl ⟨c11, c18, c117, c126, hG, ho129⟩))))))))))))
        ·
          have c130 : ¬ (16 ≤ (c - c / (100 : Int32) * (100 : Int32)).toInt) := hc
          clear hc
          obtain ⟨m131, hm132, E, hG⟩ := E_go (pc' := 96) (lv' := [(1, .int (c - c / (100 : Int32) * (100 : Int32))), (0, .int c)]) (st' := [.int (1 : Int32)]) (h' := h) 2 rfl E hG
          have ho133 := E_reti rfl E
          exact Or.inr (Or.inr (Or.inr (Or.inr (Or.inr (Or.inr (Or.inr (Or.inr (Or.inr (Or.inr (Or.inr (Or.inr (Or.inr (Or.inl ⟨c11, c18, c117, c130, hG, ho133⟩)))))))))))))
      ·
        have c134 : (c / (100 : Int32)).toInt = 4 := hc
        clear hc
        obtain ⟨m135, hm136, E⟩ := E_swi (tg := 97) rfl c134 (by decide) (by decide) rfl rfl E
        obtain ⟨m137, hm138, E, hG⟩ := E_go (pc' := 100) (lv' := [(1, .int (c - c / (100 : Int32) * (100 : Int32))), (0, .int c)]) (st' := [.int (10 : Int32), .int (c - c / (100 : Int32) * (100 : Int32))]) (h' := h) 2 rfl E hG
        rcases E_if2 (tg := 107) rfl rfl E with ⟨hc, m139, hm140, E⟩ | ⟨hc, m141, hm142, E⟩
        ·
          have c143 : 10 ≤ (c - c / (100 : Int32) * (100 : Int32)).toInt := hc
          clear hc
          obtain ⟨m144, hm145, E, hG⟩ := E_go (pc' := 108) (lv' := [(1, .int (c - c / (100 : Int32) * (100 : Int32))), (0, .int c)]) (st' := [.int (0 : Int32)]) (h' := h) 1 rfl E hG
          have ho146 := E_reti rfl E
          exact Or.inr (Or.inr (Or.inr (Or.inr (Or.inr (Or.inr (Or.inr (Or.inr (Or.inr (Or.inr (Or.inr (Or.inr (Or.inr (Or.inr (Or.inl ⟨c11, c18, c134, c143, hG, ho146⟩))))))))))))))
        ·
          have c147 : ¬ (10 ≤ (c - c / (100 : Int32) * (100 : Int32)).toInt) := hc
          clear hc
          obtain ⟨m148, hm149, E, hG⟩ := E_go (pc' := 108) (lv' := [(1, .int (c - c / (100 : Int32) * (100 : Int32))), (0, .int c)]) (st' := [.int (1 : Int32)]) (h' := h) 2 rfl E hG
          have ho150 := E_reti rfl E
          exact Or.inr (Or.inr (Or.inr (Or.inr (Or.inr (Or.inr (Or.inr (Or.inr (Or.inr (Or.inr (Or.inr (Or.inr (Or.inr (Or.inr (Or.inr (Or.inl ⟨c11, c18, c134, c147, hG, ho150⟩)))))))))))))))
      ·
        have c151 : (c / (100 : Int32)).toInt = 5 := hc
        clear hc
        obtain ⟨m152, hm153, E⟩ := E_swi (tg := 109) rfl c151 (by decide) (by decide) rfl rfl E
        obtain ⟨m154, hm155, E, hG⟩ := E_go (pc' := 112) (lv' := [(1, .int (c - c / (100 : Int32) * (100 : Int32))), (0, .int c)]) (st' := [.int (8 : Int32), .int (c - c / (100 : Int32) * (100 : Int32))]) (h' := h) 2 rfl E hG
        rcases E_if2 (tg := 119) rfl rfl E with ⟨hc, m156, hm157, E⟩ | ⟨hc, m158, hm159, E⟩
        ·
          have c160 : 8 < (c - c / (100 : Int32) * (100 : Int32)).toInt := hc
          clear hc
          obtain ⟨m161, hm162, E, hG⟩ := E_go (pc' := 120) (lv' := [(1, .int (c - c / (100 : Int32) * (100 : Int32))), (0, .int c)]) (st' := [.int (0 : Int32)]) (h' := h) 1 rfl E hG
          have ho163 := E_reti rfl E
          exact Or.inr (Or.inr (Or.inr (Or.inr (Or.inr (Or.inr (Or.inr (Or.inr (Or.inr (Or.inr (Or.inr (Or.inr (Or.inr (Or.inr (Or.inr (Or.inr (Or.inl ⟨c11, c18, c151, c160, hG, ho163⟩))))))))))))))))
        ·
          have c164 : ¬ (8 < (c - c / (100 : Int32) * (100 : Int32)).toInt) := hc
          clear hc
          obtain ⟨m165, hm166, E, hG⟩ := E_go (pc' := 120) (lv' := [(1, .int (c - c / (100 : Int32) * (100 : Int32))), (0, .int c)]) (st' := [.int (1 : Int32)]) (h' := h) 2 rfl E hG
          have ho167 := E_reti rfl E
          exact Or.inr (Or.inr (Or.inr (Or.inr (Or.inr (Or.inr (Or.inr (Or.inr (Or.inr (Or.inr (Or.inr (Or.inr (Or.inr (Or.inr (Or.inr (Or.inr (Or.inr (Or.inl ⟨c11, c18, c151, c164, hG, ho167⟩)))))))))))))))))
    ·
      have c168 : ¬ (c.toInt ≤ 620) := hc
      clear hc
      obtain ⟨m169, hm170, E, hG⟩ := E_go (pc' := 12) (lv' := [(0, .int c)]) (st' := [.int (0 : Int32)]) (h' := h) 1 rfl E hG
      have ho171 := E_reti rfl E
      exact Or.inr (Or.inr (Or.inr (Or.inr (Or.inr (Or.inr (Or.inr (Or.inr (Or.inr (Or.inr (Or.inr (Or.inr (Or.inr (Or.inr (Or.inr (Or.inr (Or.inr (Or.inr ⟨c11, c168, hG, ho171⟩)))))))))))))))))
set_option maxRecDepth 100000 in
set_option maxHeartbeats 4000000 in
theorem yt_cod {n d : Nat} {h : rk_S} {o : Option Value × rk_S} {r c : Int32} (hG : yG h) (E : rk_ex n d rm_X7_code 0 [(0, .ref 1), (1, .int r), (2, .int c)] [] h = some o) :
    (r.toInt < 0 ∧ yG h ∧ o = (some (.int ((-1) : Int32)), h)) ∨
    (¬ (r.toInt < 0) ∧ (gi h 2 5).toInt ≤ r.toInt ∧ yG h ∧ o = (some (.int ((-1) : Int32)), h)) ∨
    (¬ (r.toInt < 0) ∧ ¬ ((gi h 2 5).toInt ≤ r.toInt) ∧ ∃ m, m < n + 1 ∧ yG h ∧ rk_ex m d rm_X7_code 14 [(0, .ref 1), (1, .int r), (2, .int c)] [.int c] h = some o) := by
  obtain ⟨m1, hm2, E, hG⟩ := E_go (pc' := 5) (lv' := [(0, .ref 1), (1, .int r), (2, .int c)]) (st' := [.int r, .ref 2]) (h' := h) 3 rfl E hG
  obtain ⟨m3, d4, o5, hm7, E6, F6⟩ := E_call (ar := ([.ref 2, .int r], [])) rfl rfl rfl rfl rfl rfl E
  replace E6 : rk_ex m3 d4 rm_X3_hasRoutine 0 [(0, .ref 2), (1, .int r)] [] h = some o5 := E6
  obtain ⟨m8, hm9, E6, hG⟩ := E_go (pc' := 1) (lv' := [(0, .ref 2), (1, .int r)]) (st' := [.int r]) (h' := h) 1 rfl E6 hG
  rcases E_if1 (tg := 16) rfl rfl E6 with ⟨hc, m10, hm11, E6⟩ | ⟨hc, m12, hm13, E6⟩
  ·
    have c14 : r.toInt < 0 := hc
    clear hc
    obtain ⟨m15, hm16, E6, hG⟩ := E_go (pc' := 17) (lv' := [(0, .ref 2), (1, .int r)]) (st' := [.int (0 : Int32)]) (h' := h) 1 rfl E6 hG
    have ho17 := E_reti rfl E6
    subst ho17
    have E : rk_ex m3 d rm_X7_code 8 [(0, .ref 1), (1, .int r), (2, .int c)] [.int (0 : Int32)] h = some o := F6
    rcases E_if1 (tg := 13) rfl rfl E with ⟨hc, m18, hm19, E⟩ | ⟨hc, m20, hm21, E⟩
    · exact absurd (show ¬ (0 : Int) = 0 from hc) (by decide)
    ·
      clear hc
      obtain ⟨m22, hm23, E, hG⟩ := E_go (pc' := 12) (lv' := [(0, .ref 1), (1, .int r), (2, .int c)]) (st' := [.int ((-1) : Int32)]) (h' := h) 1 rfl E hG
      have ho24 := E_reti rfl E
      exact Or.inl ⟨c14, hG, ho24⟩
  ·
    have c25 : ¬ (r.toInt < 0) := hc
    clear hc
    obtain ⟨m26, hm27, E6, hG⟩ := E_go (pc' := 9) (lv' := [(0, .ref 2), (1, .int r)]) (st' := [.int (gi h 2 5), .int r]) (h' := h) 3 rfl E6 hG
    rcases E_if2 (tg := 16) rfl rfl E6 with ⟨hc, m28, hm29, E6⟩ | ⟨hc, m30, hm31, E6⟩
    ·
      have c32 : (gi h 2 5).toInt ≤ r.toInt := hc
      clear hc
      obtain ⟨m33, hm34, E6, hG⟩ := E_go (pc' := 17) (lv' := [(0, .ref 2), (1, .int r)]) (st' := [.int (0 : Int32)]) (h' := h) 1 rfl E6 hG
      have ho35 := E_reti rfl E6
      subst ho35
      have E : rk_ex m3 d rm_X7_code 8 [(0, .ref 1), (1, .int r), (2, .int c)] [.int (0 : Int32)] h = some o := F6
      rcases E_if1 (tg := 13) rfl rfl E with ⟨hc, m36, hm37, E⟩ | ⟨hc, m38, hm39, E⟩
      · exact absurd (show ¬ (0 : Int) = 0 from hc) (by decide)
      ·
        clear hc
        obtain ⟨m40, hm41, E, hG⟩ := E_go (pc' := 12) (lv' := [(0, .ref 1), (1, .int r), (2, .int c)]) (st' := [.int ((-1) : Int32)]) (h' := h) 1 rfl E hG
        have ho42 := E_reti rfl E
        exact Or.inr (Or.inl ⟨c25, c32, hG, ho42⟩)
    ·
      have c43 : ¬ ((gi h 2 5).toInt ≤ r.toInt) := hc
      clear hc
      obtain ⟨m44, hm45, E6, hG⟩ := E_go (pc' := 17) (lv' := [(0, .ref 2), (1, .int r)]) (st' := [.int (1 : Int32)]) (h' := h) 2 rfl E6 hG
      have ho46 := E_reti rfl E6
      subst ho46
      have E : rk_ex m3 d rm_X7_code 8 [(0, .ref 1), (1, .int r), (2, .int c)] [.int (1 : Int32)] h = some o := F6
      rcases E_if1 (tg := 13) rfl rfl E with ⟨hc, m47, hm48, E⟩ | ⟨hc, m49, hm50, E⟩
      ·
        clear hc
        obtain ⟨m51, hm52, E, hG⟩ := E_go (pc' := 14) (lv' := [(0, .ref 1), (1, .int r), (2, .int c)]) (st' := [.int c]) (h' := h) 1 rfl E hG
        exact Or.inr (Or.inr ⟨c25, c43, _, (by omega), hG, E⟩)
      · exact absurd (show ¬ (¬ (1 : Int) = 0) from hc) (by decide)
set_option maxRecDepth 100000 in
set_option maxHeartbeats 4000000 in
theorem yt_cod1 {n d : Nat} {h : rk_S} {o : Option Value × rk_S} {r c x : Int32} (hG : yG h) (E : rk_ex n d rm_X7_code 17 [(0, .ref 1), (1, .int r), (2, .int c)] [.int x] h = some o) :
    (¬ x.toInt = 0 ∧ r.toInt < 0 ∧ ∃ m, m < n + 1 ∧ yG h ∧ rk_ex m d rm_X7_code 45 [(0, .ref 1), (1, .int r), (2, .int c)] [.int c, .int r, .ref 2] h = some o) ∨
    (¬ x.toInt = 0 ∧ ¬ (r.toInt < 0) ∧ (gi h 2 5).toInt ≤ r.toInt ∧ ∃ m, m < n + 1 ∧ yG h ∧ rk_ex m d rm_X7_code 45 [(0, .ref 1), (1, .int r), (2, .int c)] [.int c, .int r, .ref 2] h = some o) ∨
    (¬ x.toInt = 0 ∧ ¬ (r.toInt < 0) ∧ ¬ ((gi h 2 5).toInt ≤ r.toInt) ∧ (gi h 14 r.toNatClampNeg).toInt < 40 ∧ ∃ m, m < n + 1 ∧ yG h ∧ rk_ex m d rm_X7_code 45 [(0, .ref 1), (1, .int r), (2, .int c)] [.int c, .int r, .ref 2] h = some o) ∨
    (¬ x.toInt = 0 ∧ ¬ (r.toInt < 0) ∧ ¬ ((gi h 2 5).toInt ≤ r.toInt) ∧ ¬ ((gi h 14 r.toNatClampNeg).toInt < 40) ∧ yG h ∧ o = (some (.int ((-4) : Int32)), h)) ∨
    (x.toInt = 0 ∧ yG h ∧ o = (some (.int ((-2) : Int32)), h)) := by
  rcases E_if1 (tg := 23) rfl rfl E with ⟨hc, m1, hm2, E⟩ | ⟨hc, m3, hm4, E⟩
  ·
    have c5 : ¬ x.toInt = 0 := hc
    clear hc
    obtain ⟨m6, hm7, E, hG⟩ := E_go (pc' := 28) (lv' := [(0, .ref 1), (1, .int r), (2, .int c)]) (st' := [.int r, .ref 2]) (h' := h) 3 rfl E hG
    obtain ⟨m8, d9, o10, hm12, E11, F11⟩ := E_call (ar := ([.ref 2, .int r], [])) rfl rfl rfl rfl rfl rfl E
    replace E11 : rk_ex m8 d9 rm_X3_lengthOf 0 [(0, .ref 2), (1, .int r)] [] h = some o10 := E11
    obtain ⟨m13, hm14, E11, hG⟩ := E_go (pc' := 2) (lv' := [(0, .ref 2), (1, .int r)]) (st' := [.int r, .ref 2]) (h' := h) 2 rfl E11 hG
    obtain ⟨m15, d16, o17, hm19, E18, F18⟩ := E_call (ar := ([.ref 2, .int r], [])) rfl rfl rfl rfl rfl rfl E11
    replace E18 : rk_ex m15 d16 rm_X3_hasRoutine 0 [(0, .ref 2), (1, .int r)] [] h = some o17 := E18
    obtain ⟨m20, hm21, E18, hG⟩ := E_go (pc' := 1) (lv' := [(0, .ref 2), (1, .int r)]) (st' := [.int r]) (h' := h) 1 rfl E18 hG
    rcases E_if1 (tg := 16) rfl rfl E18 with ⟨hc, m22, hm23, E18⟩ | ⟨hc, m24, hm25, E18⟩
    ·
      have c26 : r.toInt < 0 := hc
      clear hc
      obtain ⟨m27, hm28, E18, hG⟩ := E_go (pc' := 17) (lv' := [(0, .ref 2), (1, .int r)]) (st' := [.int (0 : Int32)]) (h' := h) 1 rfl E18 hG
      have ho29 := E_reti rfl E18
      subst ho29
      have E11 : rk_ex m15 d9 rm_X3_lengthOf 5 [(0, .ref 2), (1, .int r)] [.int (0 : Int32)] h = some o10 := F18
      rcases E_if1 (tg := 17) rfl rfl E11 with ⟨hc, m30, hm31, E11⟩ | ⟨hc, m32, hm33, E11⟩
      ·
        clear hc
        obtain ⟨m34, hm35, E11, hG⟩ := E_go (pc' := 18) (lv' := [(0, .ref 2), (1, .int r)]) (st' := [.int (0 : Int32)]) (h' := h) 1 rfl E11 hG
        have ho36 := E_reti rfl E11
        subst ho36
        have E : rk_ex m8 d rm_X7_code 31 [(0, .ref 1), (1, .int r), (2, .int c)] [.int (0 : Int32)] h = some o := F11
        obtain ⟨m37, hm38, E, hG⟩ := E_go (pc' := 33) (lv' := [(0, .ref 1), (1, .int r), (2, .int c)]) (st' := [.int (40 : Int32), .int (0 : Int32)]) (h' := h) 1 rfl E hG
        rcases E_if2 (tg := 39) rfl rfl E with ⟨hc, m39, hm40, E⟩ | ⟨hc, m41, hm42, E⟩
        ·
          clear hc
          obtain ⟨m43, hm44, E, hG⟩ := E_go (pc' := 45) (lv' := [(0, .ref 1), (1, .int r), (2, .int c)]) (st' := [.int c, .int r, .ref 2]) (h' := h) 4 rfl E hG
          exact Or.inl ⟨c5, c26, _, (by omega), hG, E⟩
        · exact absurd (show ¬ ((0 : Int) < 40) from hc) (by decide)
      · exact absurd (show ¬ ((0 : Int) = 0) from hc) (by decide)
    ·
      have c45 : ¬ (r.toInt < 0) := hc
      clear hc
      obtain ⟨m46, hm47, E18, hG⟩ := E_go (pc' := 9) (lv' := [(0, .ref 2), (1, .int r)]) (st' := [.int (gi h 2 5), .int r]) (h' := h) 3 rfl E18 hG
      rcases E_if2 (tg := 16) rfl rfl E18 with ⟨hc, m48, hm49, E18⟩ | ⟨hc, m50, hm51, E18⟩
      ·
        have c52 : (gi h 2 5).toInt ≤ r.toInt := hc
        clear hc
        obtain ⟨m53, hm54, E18, hG⟩ := E_go (pc' := 17) (lv' := [(0, .ref 2), (1, .int r)]) (st' := [.int (0 : Int32)]) (h' := h) 1 rfl E18 hG
        have ho55 := E_reti rfl E18
        subst ho55
        have E11 : rk_ex m15 d9 rm_X3_lengthOf 5 [(0, .ref 2), (1, .int r)] [.int (0 : Int32)] h = some o10 := F18
        rcases E_if1 (tg := 17) rfl rfl E11 with ⟨hc, m56, hm57, E11⟩ | ⟨hc, m58, hm59, E11⟩
        ·
          clear hc
          obtain ⟨m60, hm61, E11, hG⟩ := E_go (pc' := 18) (lv' := [(0, .ref 2), (1, .int r)]) (st' := [.int (0 : Int32)]) (h' := h) 1 rfl E11 hG
          have ho62 := E_reti rfl E11
          subst ho62
          have E : rk_ex m8 d rm_X7_code 31 [(0, .ref 1), (1, .int r), (2, .int c)] [.int (0 : Int32)] h = some o := F11
          obtain ⟨m63, hm64, E, hG⟩ := E_go (pc' := 33) (lv' := [(0, .ref 1), (1, .int r), (2, .int c)]) (st' := [.int (40 : Int32), .int (0 : Int32)]) (h' := h) 1 rfl E hG
          rcases E_if2 (tg := 39) rfl rfl E with ⟨hc, m65, hm66, E⟩ | ⟨hc, m67, hm68, E⟩
          ·
            clear hc
            obtain ⟨m69, hm70, E, hG⟩ := E_go (pc' := 45) (lv' := [(0, .ref 1), (1, .int r), (2, .int c)]) (st' := [.int c, .int r, .ref 2]) (h' := h) 4 rfl E hG
            exact Or.inr (Or.inl ⟨c5, c45, c52, _, (by omega), hG, E⟩)
          · exact absurd (show ¬ ((0 : Int) < 40) from hc) (by decide)
        · exact absurd (show ¬ ((0 : Int) = 0) from hc) (by decide)
      ·
        have c71 : ¬ ((gi h 2 5).toInt ≤ r.toInt) := hc
        clear hc
        obtain ⟨m72, hm73, E18, hG⟩ := E_go (pc' := 17) (lv' := [(0, .ref 2), (1, .int r)]) (st' := [.int (1 : Int32)]) (h' := h) 2 rfl E18 hG
        have ho74 := E_reti rfl E18
        subst ho74
        have E11 : rk_ex m15 d9 rm_X3_lengthOf 5 [(0, .ref 2), (1, .int r)] [.int (1 : Int32)] h = some o10 := F18
        rcases E_if1 (tg := 17) rfl rfl E11 with ⟨hc, m75, hm76, E11⟩ | ⟨hc, m77, hm78, E11⟩
        · exact absurd (show (1 : Int) = 0 from hc) (by decide)
        ·
          clear hc
          obtain ⟨m79, hm80, E11, hG⟩ := E_go (pc' := 18) (lv' := [(0, .ref 2), (1, .int r)]) (st' := [.int (gi h 14 r.toNatClampNeg)]) (h' := h) 5 rfl E11 hG
          have ho81 := E_reti rfl E11
          subst ho81
          have E : rk_ex m8 d rm_X7_code 31 [(0, .ref 1), (1, .int r), (2, .int c)] [.int (gi h 14 r.toNatClampNeg)] h = some o := F11
          obtain ⟨m82, hm83, E, hG⟩ := E_go (pc' := 33) (lv' := [(0, .ref 1), (1, .int r), (2, .int c)]) (st' := [.int (40 : Int32), .int (gi h 14 r.toNatClampNeg)]) (h' := h) 1 rfl E hG
          rcases E_if2 (tg := 39) rfl rfl E with ⟨hc, m84, hm85, E⟩ | ⟨hc, m86, hm87, E⟩
          ·
            have c88 : (gi h 14 r.toNatClampNeg).toInt < 40 := hc
            clear hc
            obtain ⟨m89, hm90, E, hG⟩ := E_go (pc' := 45) (lv' := [(0, .ref 1), (1, .int r), (2, .int c)]) (st' := [.int c, .int r, .ref 2]) (h' := h) 4 rfl E hG
            exact Or.inr (Or.inr (Or.inl ⟨c5, c45, c71, c88, _, (by omega), hG, E⟩))
          ·
            have c91 : ¬ ((gi h 14 r.toNatClampNeg).toInt < 40) := hc
            clear hc
            obtain ⟨m92, hm93, E, hG⟩ := E_go (pc' := 38) (lv' := [(0, .ref 1), (1, .int r), (2, .int c)]) (st' := [.int ((-4) : Int32)]) (h' := h) 1 rfl E hG
            have ho94 := E_reti rfl E
            exact Or.inr (Or.inr (Or.inr (Or.inl ⟨c5, c45, c71, c91, hG, ho94⟩)))
  ·
    have c95 : x.toInt = 0 := Decidable.not_not.mp hc
    clear hc
    obtain ⟨m96, hm97, E, hG⟩ := E_go (pc' := 22) (lv' := [(0, .ref 1), (1, .int r), (2, .int c)]) (st' := [.int ((-2) : Int32)]) (h' := h) 1 rfl E hG
    have ho98 := E_reti rfl E
    exact Or.inr (Or.inr (Or.inr (Or.inr ⟨c95, hG, ho98⟩)))
set_option maxRecDepth 100000 in
set_option maxHeartbeats 4000000 in
theorem yt_cod2 {n d : Nat} {h : rk_S} {o : Option Value × rk_S} {r c : Int32} (hG : yG h) (E : rk_ex n d rm_X7_code 48 [(0, .ref 1), (1, .int r), (2, .int c)] [] h = some o) :
    (∃ m, m < n + 1 ∧ yG h ∧ rk_ex m d rm_X7_code 52 [(0, .ref 1), (1, .int r), (2, .int c)] [.ref 20] h = some o) := by
  obtain ⟨m1, hm2, E, hG⟩ := E_go (pc' := 52) (lv' := [(0, .ref 1), (1, .int r), (2, .int c)]) (st' := [.ref 20]) (h' := h) 2 rfl E hG
  exact ⟨_, (by omega), hG, E⟩
set_option maxRecDepth 100000 in
set_option maxHeartbeats 4000000 in
theorem yt_cod3 {n d : Nat} {h : rk_S} {o : Option Value × rk_S} {r c y : Int32} (hG : yG h) (E : rk_ex n d rm_X7_code 55 [(0, .ref 1), (1, .int r), (2, .int c)] [.int y] h = some o) :
    (∃ m, m < n + 1 ∧ yG h ∧ rk_ex m d rm_X7_code 65 [(0, .ref 1), (1, .int r), (2, .int c)] [.ref 2, .int (gi h 1 8), .ref 1] h = some o) := by
  obtain ⟨m1, hm2, E, hG⟩ := E_go (pc' := 65) (lv' := [(0, .ref 1), (1, .int r), (2, .int c)]) (st' := [.ref 2, .int (gi h 1 8), .ref 1]) (h' := h) 6 rfl E hG
  exact ⟨_, (by omega), hG, E⟩
set_option maxRecDepth 100000 in
set_option maxHeartbeats 4000000 in
theorem yt_cod4 {n d : Nat} {h : rk_S} {o : Option Value × rk_S} {r c z w : Int32} (hG : yG h) (E : rk_ex n d rm_X7_code 68 [(0, .ref 1), (1, .int r), (2, .int c)] [.int z, .int w, .ref 1] h = some o) :
    (r.toInt < 0 ∧ yG (rk_pt h 1 8 (.int (w &&& z))) ∧ o = (some (.int (0 : Int32)), rk_pt h 1 8 (.int (w &&& z)))) ∨
    (¬ (r.toInt < 0) ∧ (gi h 2 5).toInt ≤ r.toInt ∧ yG (rk_pt h 1 8 (.int (w &&& z))) ∧ o = (some (.int (0 : Int32)), rk_pt h 1 8 (.int (w &&& z)))) ∨
    (¬ (r.toInt < 0) ∧ ¬ ((gi h 2 5).toInt ≤ r.toInt) ∧ yG (rk_pt h 1 8 (.int (w &&& z))) ∧ o = (some (.int (gi h 14 r.toNatClampNeg)), rk_pt h 1 8 (.int (w &&& z)))) := by
  obtain ⟨m1, hm2, E, hG⟩ := E_go (pc' := 77) (lv' := [(0, .ref 1), (1, .int r), (2, .int c)]) (st' := [.int r, .ref 2]) (h' := rk_pt h 1 8 (.int (w &&& z))) 5 rfl E hG
  obtain ⟨m3, d4, o5, hm7, E6, F6⟩ := E_call (ar := ([.ref 2, .int r], [])) rfl rfl rfl rfl rfl rfl E
  replace E6 : rk_ex m3 d4 rm_X3_lengthOf 0 [(0, .ref 2), (1, .int r)] [] (rk_pt h 1 8 (.int (w &&& z))) = some o5 := E6
  obtain ⟨m8, hm9, E6, hG⟩ := E_go (pc' := 2) (lv' := [(0, .ref 2), (1, .int r)]) (st' := [.int r, .ref 2]) (h' := rk_pt h 1 8 (.int (w &&& z))) 2 rfl E6 hG
  obtain ⟨m10, d11, o12, hm14, E13, F13⟩ := E_call (ar := ([.ref 2, .int r], [])) rfl rfl rfl rfl rfl rfl E6
  replace E13 : rk_ex m10 d11 rm_X3_hasRoutine 0 [(0, .ref 2), (1, .int r)] [] (rk_pt h 1 8 (.int (w &&& z))) = some o12 := E13
  obtain ⟨m15, hm16, E13, hG⟩ := E_go (pc' := 1) (lv' := [(0, .ref 2), (1, .int r)]) (st' := [.int r]) (h' := rk_pt h 1 8 (.int (w &&& z))) 1 rfl E13 hG
  rcases E_if1 (tg := 16) rfl rfl E13 with ⟨hc, m17, hm18, E13⟩ | ⟨hc, m19, hm20, E13⟩
  ·
    have c21 : r.toInt < 0 := hc
    clear hc
    obtain ⟨m22, hm23, E13, hG⟩ := E_go (pc' := 17) (lv' := [(0, .ref 2), (1, .int r)]) (st' := [.int (0 : Int32)]) (h' := rk_pt h 1 8 (.int (w &&& z))) 1 rfl E13 hG
    have ho24 := E_reti rfl E13
    subst ho24
    have E6 : rk_ex m10 d4 rm_X3_lengthOf 5 [(0, .ref 2), (1, .int r)] [.int (0 : Int32)] (rk_pt h 1 8 (.int (w &&& z))) = some o5 := F13
    rcases E_if1 (tg := 17) rfl rfl E6 with ⟨hc, m25, hm26, E6⟩ | ⟨hc, m27, hm28, E6⟩
    ·
      clear hc
      obtain ⟨m29, hm30, E6, hG⟩ := E_go (pc' := 18) (lv' := [(0, .ref 2), (1, .int r)]) (st' := [.int (0 : Int32)]) (h' := rk_pt h 1 8 (.int (w &&& z))) 1 rfl E6 hG
      have ho31 := E_reti rfl E6
      subst ho31
      have E : rk_ex m3 d rm_X7_code 80 [(0, .ref 1), (1, .int r), (2, .int c)] [.int (0 : Int32)] (rk_pt h 1 8 (.int (w &&& z))) = some o := F6
      have ho32 := E_reti rfl E
      exact Or.inl ⟨c21, hG, ho32⟩
    · exact absurd (show ¬ ((0 : Int) = 0) from hc) (by decide)
  ·
    have c33 : ¬ (r.toInt < 0) := hc
    clear hc
    obtain ⟨m34, hm35, E13, hG⟩ := E_go (pc' := 9) (lv' := [(0, .ref 2), (1, .int r)]) (st' := [.int (gi (rk_pt h 1 8 (.int (w &&& z))) 2 5), .int r]) (h' := rk_pt h 1 8 (.int (w &&& z))) 3 rfl E13 hG
    try simp only [gi_x (a := 1) (a' := 2) (by decide)] at E13 hG
    rcases E_if2 (tg := 16) rfl rfl E13 with ⟨hc, m36, hm37, E13⟩ | ⟨hc, m38, hm39, E13⟩
    ·
      have c40 : (gi h 2 5).toInt ≤ r.toInt := hc
      clear hc
      obtain ⟨m41, hm42, E13, hG⟩ := E_go (pc' := 17) (lv' := [(0, .ref 2), (1, .int r)]) (st' := [.int (0 : Int32)]) (h' := rk_pt h 1 8 (.int (w &&& z))) 1 rfl E13 hG
      have ho43 := E_reti rfl E13
      subst ho43
      have E6 : rk_ex m10 d4 rm_X3_lengthOf 5 [(0, .ref 2), (1, .int r)] [.int (0 : Int32)] (rk_pt h 1 8 (.int (w &&& z))) = some o5 := F13
      rcases E_if1 (tg := 17) rfl rfl E6 with ⟨hc, m44, hm45, E6⟩ | ⟨hc, m46, hm47, E6⟩
      ·
        clear hc
        obtain ⟨m48, hm49, E6, hG⟩ := E_go (pc' := 18) (lv' := [(0, .ref 2), (1, .int r)]) (st' := [.int (0 : Int32)]) (h' := rk_pt h 1 8 (.int (w &&& z))) 1 rfl E6 hG
        have ho50 := E_reti rfl E6
        subst ho50
        have E : rk_ex m3 d rm_X7_code 80 [(0, .ref 1), (1, .int r), (2, .int c)] [.int (0 : Int32)] (rk_pt h 1 8 (.int (w &&& z))) = some o := F6
        have ho51 := E_reti rfl E
        exact Or.inr (Or.inl ⟨c33, c40, hG, ho51⟩)
      · exact absurd (show ¬ ((0 : Int) = 0) from hc) (by decide)
    ·
      have c52 : ¬ ((gi h 2 5).toInt ≤ r.toInt) := hc
      clear hc
      obtain ⟨m53, hm54, E13, hG⟩ := E_go (pc' := 17) (lv' := [(0, .ref 2), (1, .int r)]) (st' := [.int (1 : Int32)]) (h' := rk_pt h 1 8 (.int (w &&& z))) 2 rfl E13 hG
      have ho55 := E_reti rfl E13
      subst ho55
      have E6 : rk_ex m10 d4 rm_X3_lengthOf 5 [(0, .ref 2), (1, .int r)] [.int (1 : Int32)] (rk_pt h 1 8 (.int (w &&& z))) = some o5 := F13
      rcases E_if1 (tg := 17) rfl rfl E6 with ⟨hc, m56, hm57, E6⟩ | ⟨hc, m58, hm59, E6⟩
      · exact absurd (show (1 : Int) = 0 from hc) (by decide)
      ·
        clear hc
        obtain ⟨m60, hm61, E6, hG⟩ := E_go (pc' := 18) (lv' := [(0, .ref 2), (1, .int r)]) (st' := [.int (gi (rk_pt h 1 8 (.int (w &&& z))) 14 r.toNatClampNeg)]) (h' := rk_pt h 1 8 (.int (w &&& z))) 5 rfl E6 hG
        try simp only [gi_x (a := 1) (a' := 14) (by decide)] at E6 hG
        have ho62 := E_reti rfl E6
        subst ho62
        have E : rk_ex m3 d rm_X7_code 80 [(0, .ref 1), (1, .int r), (2, .int c)] [.int (gi h 14 r.toNatClampNeg)] (rk_pt h 1 8 (.int (w &&& z))) = some o := F6
        have ho63 := E_reti rfl E
        exact Or.inr (Or.inr ⟨c33, c52, hG, ho63⟩)
set_option maxRecDepth 100000 in
set_option maxHeartbeats 4000000 in
theorem yt_act {n d : Nat} {h : rk_S} {o : Option Value × rk_S} {r : Int32} (hG : yG h) (E : rk_ex n d rm_X7_acting 0 [(0, .ref 1), (1, .int r)] [] h = some o) :
    (r.toInt < 0 ∧ yG h ∧ o = (some (.int ((-1) : Int32)), h)) ∨
    (¬ (r.toInt < 0) ∧ (gi h 2 5).toInt ≤ r.toInt ∧ yG h ∧ o = (some (.int ((-1) : Int32)), h)) ∨
    (¬ (r.toInt < 0) ∧ ¬ ((gi h 2 5).toInt ≤ r.toInt) ∧ yG h ∧ o = (some (.int (gi h 15 r.toNatClampNeg)), h)) := by
  obtain ⟨m1, hm2, E, hG⟩ := E_go (pc' := 5) (lv' := [(0, .ref 1), (1, .int r)]) (st' := [.int r, .ref 2]) (h' := h) 3 rfl E hG
  obtain ⟨m3, d4, o5, hm7, E6, F6⟩ := E_call (ar := ([.ref 2, .int r], [])) rfl rfl rfl rfl rfl rfl E
  replace E6 : rk_ex m3 d4 rm_X3_hasRoutine 0 [(0, .ref 2), (1, .int r)] [] h = some o5 := E6
  obtain ⟨m8, hm9, E6, hG⟩ := E_go (pc' := 1) (lv' := [(0, .ref 2), (1, .int r)]) (st' := [.int r]) (h' := h) 1 rfl E6 hG
  rcases E_if1 (tg := 16) rfl rfl E6 with ⟨hc, m10, hm11, E6⟩ | ⟨hc, m12, hm13, E6⟩
  ·
    have c14 : r.toInt < 0 := hc
    clear hc
    obtain ⟨m15, hm16, E6, hG⟩ := E_go (pc' := 17) (lv' := [(0, .ref 2), (1, .int r)]) (st' := [.int (0 : Int32)]) (h' := h) 1 rfl E6 hG
    have ho17 := E_reti rfl E6
    subst ho17
    have E : rk_ex m3 d rm_X7_acting 8 [(0, .ref 1), (1, .int r)] [.int (0 : Int32)] h = some o := F6
    rcases E_if1 (tg := 22) rfl rfl E with ⟨hc, m18, hm19, E⟩ | ⟨hc, m20, hm21, E⟩
    ·
      clear hc
      obtain ⟨m22, hm23, E, hG⟩ := E_go (pc' := 23) (lv' := [(0, .ref 1), (1, .int r)]) (st' := [.int ((-1) : Int32)]) (h' := h) 1 rfl E hG
      have ho24 := E_reti rfl E
      exact Or.inl ⟨c14, hG, ho24⟩
    · exact absurd (show ¬ ((0 : Int) = 0) from hc) (by decide)
  ·
    have c25 : ¬ (r.toInt < 0) := hc
    clear hc
    obtain ⟨m26, hm27, E6, hG⟩ := E_go (pc' := 9) (lv' := [(0, .ref 2), (1, .int r)]) (st' := [.int (gi h 2 5), .int r]) (h' := h) 3 rfl E6 hG
    rcases E_if2 (tg := 16) rfl rfl E6 with ⟨hc, m28, hm29, E6⟩ | ⟨hc, m30, hm31, E6⟩
    ·
      have c32 : (gi h 2 5).toInt ≤ r.toInt := hc
      clear hc
      obtain ⟨m33, hm34, E6, hG⟩ := E_go (pc' := 17) (lv' := [(0, .ref 2), (1, .int r)]) (st' := [.int (0 : Int32)]) (h' := h) 1 rfl E6 hG
      have ho35 := E_reti rfl E6
      subst ho35
      have E : rk_ex m3 d rm_X7_acting 8 [(0, .ref 1), (1, .int r)] [.int (0 : Int32)] h = some o := F6
      rcases E_if1 (tg := 22) rfl rfl E with ⟨hc, m36, hm37, E⟩ | ⟨hc, m38, hm39, E⟩
      ·
        clear hc
        obtain ⟨m40, hm41, E, hG⟩ := E_go (pc' := 23) (lv' := [(0, .ref 1), (1, .int r)]) (st' := [.int ((-1) : Int32)]) (h' := h) 1 rfl E hG
        have ho42 := E_reti rfl E
        exact Or.inr (Or.inl ⟨c25, c32, hG, ho42⟩)
      · exact absurd (show ¬ ((0 : Int) = 0) from hc) (by decide)
    ·
      have c43 : ¬ ((gi h 2 5).toInt ≤ r.toInt) := hc
      clear hc
      obtain ⟨m44, hm45, E6, hG⟩ := E_go (pc' := 17) (lv' := [(0, .ref 2), (1, .int r)]) (st' := [.int (1 : Int32)]) (h' := h) 2 rfl E6 hG
      have ho46 := E_reti rfl E6
      subst ho46
      have E : rk_ex m3 d rm_X7_acting 8 [(0, .ref 1), (1, .int r)] [.int (1 : Int32)] h = some o := F6
      rcases E_if1 (tg := 22) rfl rfl E with ⟨hc, m47, hm48, E⟩ | ⟨hc, m49, hm50, E⟩
      · exact absurd (show (1 : Int) = 0 from hc) (by decide)
      ·
        clear hc
        obtain ⟨m51, hm52, E, hG⟩ := E_go (pc' := 16) (lv' := [(0, .ref 1), (1, .int r)]) (st' := [.int r, .ref 2]) (h' := h) 3 rfl E hG
        obtain ⟨m53, d54, o55, hm57, E56, F56⟩ := E_call (ar := ([.ref 2, .int r], [])) rfl rfl rfl rfl rfl rfl E
        replace E56 : rk_ex m53 d54 rm_X3_actingOf 0 [(0, .ref 2), (1, .int r)] [] h = some o55 := E56
        obtain ⟨m58, hm59, E56, hG⟩ := E_go (pc' := 2) (lv' := [(0, .ref 2), (1, .int r)]) (st' := [.int r, .ref 2]) (h' := h) 2 rfl E56 hG
        obtain ⟨m60, d61, o62, hm64, E63, F63⟩ := E_call (ar := ([.ref 2, .int r], [])) rfl rfl rfl rfl rfl rfl E56
        replace E63 : rk_ex m60 d61 rm_X3_hasRoutine 0 [(0, .ref 2), (1, .int r)] [] h = some o62 := E63
        obtain ⟨m65, hm66, E63, hG⟩ := E_go (pc' := 1) (lv' := [(0, .ref 2), (1, .int r)]) (st' := [.int r]) (h' := h) 1 rfl E63 hG
        rcases E_if1 (tg := 16) rfl rfl E63 with ⟨hc, m67, hm68, E63⟩ | ⟨hc, m69, hm70, E63⟩
        · exact absurd hc c25
        ·
          clear hc
          obtain ⟨m71, hm72, E63, hG⟩ := E_go (pc' := 9) (lv' := [(0, .ref 2), (1, .int r)]) (st' := [.int (gi h 2 5), .int r]) (h' := h) 3 rfl E63 hG
          rcases E_if2 (tg := 16) rfl rfl E63 with ⟨hc, m73, hm74, E63⟩ | ⟨hc, m75, hm76, E63⟩
          · exact absurd hc c43
          ·
            clear hc
            obtain ⟨m77, hm78, E63, hG⟩ := E_go (pc' := 17) (lv' := [(0, .ref 2), (1, .int r)]) (st' := [.int (1 : Int32)]) (h' := h) 2 rfl E63 hG
            have ho79 := E_reti rfl E63
            subst ho79
            have E56 : rk_ex m60 d54 rm_X3_actingOf 5 [(0, .ref 2), (1, .int r)] [.int (1 : Int32)] h = some o55 := F63
            rcases E_if1 (tg := 17) rfl rfl E56 with ⟨hc, m80, hm81, E56⟩ | ⟨hc, m82, hm83, E56⟩
            · exact absurd (show (1 : Int) = 0 from hc) (by decide)
            ·
              clear hc
              obtain ⟨m84, hm85, E56, hG⟩ := E_go (pc' := 18) (lv' := [(0, .ref 2), (1, .int r)]) (st' := [.int (gi h 15 r.toNatClampNeg)]) (h' := h) 5 rfl E56 hG
              have ho86 := E_reti rfl E56
              subst ho86
              have E : rk_ex m53 d rm_X7_acting 19 [(0, .ref 1), (1, .int r)] [.int (gi h 15 r.toNatClampNeg)] h = some o := F56
              obtain ⟨m87, hm88, E, hG⟩ := E_go (pc' := 23) (lv' := [(0, .ref 1), (1, .int r)]) (st' := [.int (gi h 15 r.toNatClampNeg)]) (h' := h) 1 rfl E hG
              have ho89 := E_reti rfl E
              exact Or.inr (Or.inr ⟨c25, c43, hG, ho89⟩)
set_option maxRecDepth 100000 in
set_option maxHeartbeats 4000000 in
theorem yt_rea {n d : Nat} {h : rk_S} {o : Option Value × rk_S} {r : Int32} (hG : yG h) (E : rk_ex n d rm_X7_reads 0 [(0, .ref 1), (1, .int r)] [] h = some o) :
    (r.toInt < 0 ∧ yG h ∧ o = (some (.int ((-1) : Int32)), h)) ∨
    (¬ (r.toInt < 0) ∧ (gi h 2 5).toInt ≤ r.toInt ∧ yG h ∧ o = (some (.int ((-1) : Int32)), h)) ∨
    (¬ (r.toInt < 0) ∧ ¬ ((gi h 2 5).toInt ≤ r.toInt) ∧ yG h ∧ o = (some (.int (gi h 16 r.toNatClampNeg)), h)) := by
  obtain ⟨m1, hm2, E, hG⟩ := E_go (pc' := 5) (lv' := [(0, .ref 1), (1, .int r)]) (st' := [.int r, .ref 2]) (h' := h) 3 rfl E hG
  obtain ⟨m3, d4, o5, hm7, E6, F6⟩ := E_call (ar := ([.ref 2, .int r], [])) rfl rfl rfl rfl rfl rfl E
  replace E6 : rk_ex m3 d4 rm_X3_hasRoutine 0 [(0, .ref 2), (1, .int r)] [] h = some o5 := E6
  obtain ⟨m8, hm9, E6, hG⟩ := E_go (pc' := 1) (lv' := [(0, .ref 2), (1, .int r)]) (st' := [.int r]) (h' := h) 1 rfl E6 hG
  rcases E_if1 (tg := 16) rfl rfl E6 with ⟨hc, m10, hm11, E6⟩ | ⟨hc, m12, hm13, E6⟩
  ·
    have c14 : r.toInt < 0 := hc
    clear hc
    obtain ⟨m15, hm16, E6, hG⟩ := E_go (pc' := 17) (lv' := [(0, .ref 2), (1, .int r)]) (st' := [.int (0 : Int32)]) (h' := h) 1 rfl E6 hG
    have ho17 := E_reti rfl E6
    subst ho17
    have E : rk_ex m3 d rm_X7_reads 8 [(0, .ref 1), (1, .int r)] [.int (0 : Int32)] h = some o := F6
    rcases E_if1 (tg := 22) rfl rfl E with ⟨hc, m18, hm19, E⟩ | ⟨hc, m20, hm21, E⟩
    ·
      clear hc
      obtain ⟨m22, hm23, E, hG⟩ := E_go (pc' := 23) (lv' := [(0, .ref 1), (1, .int r)]) (st' := [.int ((-1) : Int32)]) (h' := h) 1 rfl E hG
      have ho24 := E_reti rfl E
      exact Or.inl ⟨c14, hG, ho24⟩
    · exact absurd (show ¬ ((0 : Int) = 0) from hc) (by decide)
  ·
    have c25 : ¬ (r.toInt < 0) := hc
    clear hc
    obtain ⟨m26, hm27, E6, hG⟩ := E_go (pc' := 9) (lv' := [(0, .ref 2), (1, .int r)]) (st' := [.int (gi h 2 5), .int r]) (h' := h) 3 rfl E6 hG
    rcases E_if2 (tg := 16) rfl rfl E6 with ⟨hc, m28, hm29, E6⟩ | ⟨hc, m30, hm31, E6⟩
    ·
      have c32 : (gi h 2 5).toInt ≤ r.toInt := hc
      clear hc
      obtain ⟨m33, hm34, E6, hG⟩ := E_go (pc' := 17) (lv' := [(0, .ref 2), (1, .int r)]) (st' := [.int (0 : Int32)]) (h' := h) 1 rfl E6 hG
      have ho35 := E_reti rfl E6
      subst ho35
      have E : rk_ex m3 d rm_X7_reads 8 [(0, .ref 1), (1, .int r)] [.int (0 : Int32)] h = some o := F6
      rcases E_if1 (tg := 22) rfl rfl E with ⟨hc, m36, hm37, E⟩ | ⟨hc, m38, hm39, E⟩
      ·
        clear hc
        obtain ⟨m40, hm41, E, hG⟩ := E_go (pc' := 23) (lv' := [(0, .ref 1), (1, .int r)]) (st' := [.int ((-1) : Int32)]) (h' := h) 1 rfl E hG
        have ho42 := E_reti rfl E
        exact Or.inr (Or.inl ⟨c25, c32, hG, ho42⟩)
      · exact absurd (show ¬ ((0 : Int) = 0) from hc) (by decide)
    ·
      have c43 : ¬ ((gi h 2 5).toInt ≤ r.toInt) := hc
      clear hc
      obtain ⟨m44, hm45, E6, hG⟩ := E_go (pc' := 17) (lv' := [(0, .ref 2), (1, .int r)]) (st' := [.int (1 : Int32)]) (h' := h) 2 rfl E6 hG
      have ho46 := E_reti rfl E6
      subst ho46
      have E : rk_ex m3 d rm_X7_reads 8 [(0, .ref 1), (1, .int r)] [.int (1 : Int32)] h = some o := F6
      rcases E_if1 (tg := 22) rfl rfl E with ⟨hc, m47, hm48, E⟩ | ⟨hc, m49, hm50, E⟩
      · exact absurd (show (1 : Int) = 0 from hc) (by decide)
      ·
        clear hc
        obtain ⟨m51, hm52, E, hG⟩ := E_go (pc' := 16) (lv' := [(0, .ref 1), (1, .int r)]) (st' := [.int r, .ref 2]) (h' := h) 3 rfl E hG
        obtain ⟨m53, d54, o55, hm57, E56, F56⟩ := E_call (ar := ([.ref 2, .int r], [])) rfl rfl rfl rfl rfl rfl E
        replace E56 : rk_ex m53 d54 rm_X3_readingOf 0 [(0, .ref 2), (1, .int r)] [] h = some o55 := E56
        obtain ⟨m58, hm59, E56, hG⟩ := E_go (pc' := 2) (lv' := [(0, .ref 2), (1, .int r)]) (st' := [.int r, .ref 2]) (h' := h) 2 rfl E56 hG
        obtain ⟨m60, d61, o62, hm64, E63, F63⟩ := E_call (ar := ([.ref 2, .int r], [])) rfl rfl rfl rfl rfl rfl E56
        replace E63 : rk_ex m60 d61 rm_X3_hasRoutine 0 [(0, .ref 2), (1, .int r)] [] h = some o62 := E63
        obtain ⟨m65, hm66, E63, hG⟩ := E_go (pc' := 1) (lv' := [(0, .ref 2), (1, .int r)]) (st' := [.int r]) (h' := h) 1 rfl E63 hG
        rcases E_if1 (tg := 16) rfl rfl E63 with ⟨hc, m67, hm68, E63⟩ | ⟨hc, m69, hm70, E63⟩
        · exact absurd hc c25
        ·
          clear hc
          obtain ⟨m71, hm72, E63, hG⟩ := E_go (pc' := 9) (lv' := [(0, .ref 2), (1, .int r)]) (st' := [.int (gi h 2 5), .int r]) (h' := h) 3 rfl E63 hG
          rcases E_if2 (tg := 16) rfl rfl E63 with ⟨hc, m73, hm74, E63⟩ | ⟨hc, m75, hm76, E63⟩
          · exact absurd hc c43
          ·
            clear hc
            obtain ⟨m77, hm78, E63, hG⟩ := E_go (pc' := 17) (lv' := [(0, .ref 2), (1, .int r)]) (st' := [.int (1 : Int32)]) (h' := h) 2 rfl E63 hG
            have ho79 := E_reti rfl E63
            subst ho79
            have E56 : rk_ex m60 d54 rm_X3_readingOf 5 [(0, .ref 2), (1, .int r)] [.int (1 : Int32)] h = some o55 := F63
            rcases E_if1 (tg := 17) rfl rfl E56 with ⟨hc, m80, hm81, E56⟩ | ⟨hc, m82, hm83, E56⟩
            · exact absurd (show (1 : Int) = 0 from hc) (by decide)
            ·
              clear hc
              obtain ⟨m84, hm85, E56, hG⟩ := E_go (pc' := 18) (lv' := [(0, .ref 2), (1, .int r)]) (st' := [.int (gi h 16 r.toNatClampNeg)]) (h' := h) 5 rfl E56 hG
              have ho86 := E_reti rfl E56
              subst ho86
              have E : rk_ex m53 d rm_X7_reads 19 [(0, .ref 1), (1, .int r)] [.int (gi h 16 r.toNatClampNeg)] h = some o := F56
              obtain ⟨m87, hm88, E, hG⟩ := E_go (pc' := 23) (lv' := [(0, .ref 1), (1, .int r)]) (st' := [.int (gi h 16 r.toNatClampNeg)]) (h' := h) 1 rfl E hG
              have ho89 := E_reti rfl E
              exact Or.inr (Or.inr ⟨c25, c43, hG, ho89⟩)
