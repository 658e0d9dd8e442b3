/-! the reference's loop ends: its frames stay in order, and something falls -/
theorem xE1 {r : List Int} {i : Nat} {c x z : Int} (h : r[i]? = some x) (e : c * x = z) : xE r [(i, c)] = some z := by
  rw [xE_mk (p := (i, c)) h rfl]
  congr 1
  dsimp only
  omega
theorem xE2 {r : List Int} {i j : Nat} {c d x y z : Int} (h : r[i]? = some x) (h' : r[j]? = some y) (e : c * x + d * y = z) : xE r [(i, c), (j, d)] = some z := by
  rw [xE_mk (p := (i, c)) h (xE1 h' rfl)]
  congr 1
theorem xE3 {r : List Int} {i j k : Nat} {c d e x y w z : Int} (h : r[i]? = some x) (h' : r[j]? = some y) (h'' : r[k]? = some w) (he : c * x + (d * y + e * w) = z) : xE r [(i, c), (j, d), (k, e)] = some z := by
  rw [xE_mk (p := (i, c)) h (xE2 h' h'' rfl)]
  congr 1
theorem x_f1 {rt : List Int} {h : rk_S} {w : Option Value} {c : Nat} {i t : xT} {k : Nat} {z : Int} (hh : xHold rt h w ([some (c, i)], t)) (hi : xE (1 :: rt) i = some (k : Int)) (ht : xE (1 :: (rt ++ [rk_iv h c k])) t = some z) : 0 ≤ z := by
  obtain ⟨k', g1, z', g2, g3⟩ := x_h1 hh
  have := g1.symm.trans hi
  injection this with this
  have : k' = k := by omega
  subst this
  cases g2.symm.trans ht
  exact g3
theorem x_f2 {rt : List Int} {h : rk_S} {w : Option Value} {c c' : Nat} {i i' t : xT} {k k' : Nat} {z : Int} (hh : xHold rt h w ([some (c, i), some (c', i')], t)) (hi : xE (1 :: rt) i = some (k : Int)) (hi' : xE (1 :: rt) i' = some (k' : Int)) (ht : xE (1 :: (rt ++ [rk_iv h c k, rk_iv h c' k'])) t = some z) : 0 ≤ z := by
  obtain ⟨j, j', g1, g1', z', g2, g3⟩ := x_h2 hh
  have e1 := g1.symm.trans hi
  have e2 := g1'.symm.trans hi'
  injection e1 with e1
  injection e2 with e2
  have : j = k := by omega
  subst this
  have : j' = k' := by omega
  subst this
  cases g2.symm.trans ht
  exact g3
theorem x_f0 {rt : List Int} {h : rk_S} {w : Option Value} {t : xT} {z : Int} (hh : xHold rt h w ([], t)) (ht : xE (1 :: rt) t = some z) : 0 ≤ z := by
  obtain ⟨z', g2, g3⟩ := x_h0 hh
  cases g2.symm.trans ht
  exact g3
def x_fok (c k : Nat) (b : xB) : Bool := match xty c with
  | some q => Nat.blt k q.2.1 && (match rk_slot q.2.2 k with
    | .inl b' => decide (b' = b)
    | .inr _ => false)
  | none => false
def x_aok (c n : Nat) (b : xB) : Bool := match xty c with
  | some q => Nat.beq q.2.1 n && (match q.2.2 with
    | [.inl b'] => decide (b' = b)
    | _ => false)
  | none => false
theorem x_fok_ok {h : rk_S} (hI : rk_Iv rk_Y h) {c k : Nat} {b : xB} (hh : x_fok c k b = true) : ∃ x : Int32, rk_get h c k = some (.int x) ∧ xinB x.toInt b ∧ rk_iv h c k = x.toInt := by
  unfold x_fok at hh
  split at hh
  · rename_i q hq
    rw [Bool.and_eq_true, Nat.blt_eq] at hh
    obtain ⟨h1, h2⟩ := hh
    split at h2
    · rename_i b' hb
      have := of_decide_eq_true h2
      subst this
      exact x_typf hI hq h1 hb
    · cases h2
  · cases hh
theorem x_aok_ok {h : rk_S} (hI : rk_Iv rk_Y h) {c n : Nat} {b : xB} (hh : x_aok c n b = true) {k : Nat} (hk : k < n) : ∃ x : Int32, rk_get h c k = some (.int x) ∧ xinB x.toInt b ∧ rk_iv h c k = x.toInt := by
  unfold x_aok at hh
  split at hh
  · rename_i q hq
    rw [Bool.and_eq_true, rk_beq] at hh
    obtain ⟨h1, h2⟩ := hh
    split at h2
    · rename_i b' hb
      have := of_decide_eq_true h2
      subst this
      have hk2 : k < q.2.1 := by rw [h1]; exact hk
      exact x_typf (n := q.2.1) (kd := q.1) (ts := q.2.2) hI hq hk2 (by rw [hb]; rfl)
    · cases h2
  · cases hh
theorem ty_24 : x_fok 316 24 [(0, 12)] = true := by decide +kernel
theorem ty_34 : x_fok 316 34 [(0, 2000)] = true := by decide +kernel
theorem ty_39 : x_fok 316 39 [(0, 5)] = true := by decide +kernel
theorem ty_317 : x_aok 317 10 [(0, 40)] = true := by decide +kernel
theorem ty_318 : x_aok 318 400 [(0, 102), (200, 215), (300, 315), (400, 409), (500, 508), (601, 620)] = true := by decide +kernel
theorem ty_334 : x_aok 334 12 [(0, 9)] = true := by decide +kernel
theorem ty_335 : x_aok 335 12 [(0, 40)] = true := by decide +kernel
theorem ty_337 : x_aok 337 12 [(0, 20)] = true := by decide +kernel
theorem ty_339 : x_aok 339 12 [(0, 2000)] = true := by decide +kernel
/-- frames in order -/
def gI (d : Nat) (h : rk_S) : Prop := rk_iv h 316 24 = (d : Int) ∧ ∀ f : Nat, f < d → rk_iv h 335 f ≤ rk_iv h 317 (rk_iv h 334 f).toNat ∧ rk_iv h 339 f ≤ rk_iv h 316 34 ∧ (f + 1 < d → rk_iv h 337 f ≤ 17)
def gmu (h : rk_S) : Int := 20 * (2000 - rk_iv h 316 34) + rk_iv h 316 24 + (if rk_iv h 316 39 = 0 then 1 else 0)
def gP (d : Nat) (b k : Nat) : Prop := k ≤ 10000 ∧ ((b = 334 ∧ d ≤ k) ∨ (b = 335 ∧ d ≤ k + 1) ∨ (b = 339 ∧ d ≤ k) ∨ (b = 337 ∧ d ≤ k + 2) ∨ b = 336 ∨ b = 338 ∨ (340 ≤ b ∧ b ≤ 342) ∨ (320 ≤ b ∧ b ≤ 333) ∨ (b = 316 ∧ 20 ≤ k ∧ k ≤ 41))
def g_rt (h : rk_S) (d : Nat) (u c : Int) : List Int := [(d : Int), rk_iv h 334 (d - 1), rk_iv h 335 (d - 1), rk_iv h 317 (rk_iv h 334 (d - 1)).toNat, rk_iv h 316 34, rk_iv h 339 (d - 1), rk_iv h 337 (d - 1), rk_iv h 316 39, u, c]
theorem g_WP (h : rk_S) (d : Nat) (u c : Int) : xWP (gP d) (1 :: g_rt h d u c) g_W := by
  intro w hw
  simp only [g_W, List.mem_cons, List.not_mem_nil, or_false] at hw
  rcases hw with rfl | rfl | rfl | rfl | rfl | rfl | rfl | rfl | rfl
  · exact ⟨_, _, xE1 rfl rfl, xE1 rfl rfl, fun b k h1 h2 h3 h4 => by dsimp only at h1 h2; unfold gP; omega⟩
  · exact ⟨_, _, xE2 rfl rfl rfl, xE1 rfl rfl, fun b k h1 h2 h3 h4 => by dsimp only at h1 h2; unfold gP; omega⟩
  · exact ⟨_, _, xE1 rfl rfl, xE1 rfl rfl, fun b k h1 h2 h3 h4 => by dsimp only at h1 h2; unfold gP; omega⟩
  · exact ⟨_, _, xE2 rfl rfl rfl, xE1 rfl rfl, fun b k h1 h2 h3 h4 => by dsimp only at h1 h2; unfold gP; omega⟩
  · exact ⟨_, _, xE1 rfl rfl, xE1 rfl rfl, fun b k h1 h2 h3 h4 => by dsimp only at h1 h2; unfold gP; omega⟩
  · exact ⟨_, _, xE1 rfl rfl, xE1 rfl rfl, fun b k h1 h2 h3 h4 => by dsimp only at h1 h2; unfold gP; omega⟩
  · exact ⟨_, _, xE1 rfl rfl, xE1 rfl rfl, fun b k h1 h2 h3 h4 => by dsimp only at h1 h2; unfold gP; omega⟩
  · exact ⟨_, _, xE1 rfl rfl, xE1 rfl rfl, fun b k h1 h2 h3 h4 => by dsimp only at h1 h2; unfold gP; omega⟩
  · exact ⟨_, _, xE1 rfl rfl, xE1 rfl rfl, fun b k h1 h2 h3 h4 => by dsimp only at h1 h2; unfold gP; omega⟩
section RKgo
variable {h : rk_S} {d : Nat} {u c : Int} {D : Nat} {cl : rk_L} {Q : Option Value → rk_S → Prop}
theorem g_kn_ok (hI : rk_Iv rk_Y h) (h1 : 1 ≤ d) (h2 : d ≤ 12) (hd : rk_iv h 316 24 = (d : Int)) : xkn (1 :: g_rt h d u c) g_kn h := by
  obtain ⟨x24, a1, -, a2⟩ := x_fok_ok hI ty_24
  obtain ⟨x34, b1, -, b2⟩ := x_fok_ok hI ty_34
  obtain ⟨x39, c1, -, c2⟩ := x_fok_ok hI ty_39
  obtain ⟨x334, d1, d3, d2⟩ := x_aok_ok hI ty_334 (k := d - 1) (by omega)
  obtain ⟨x335, e1, -, e2⟩ := x_aok_ok hI ty_335 (k := d - 1) (by omega)
  obtain ⟨x337, f1, -, f2⟩ := x_aok_ok hI ty_337 (k := d - 1) (by omega)
  obtain ⟨x339, g1, -, g2⟩ := x_aok_ok hI ty_339 (k := d - 1) (by omega)
  have d3 := x_one1 d3
  obtain ⟨x317, i1, -, i2⟩ := x_aok_ok hI ty_317 (k := (rk_iv h 334 (d - 1)).toNat) (by omega)
  intro p hp
  simp only [g_kn, List.mem_cons, List.not_mem_nil, or_false] at hp
  rcases hp with rfl | rfl | rfl | rfl | rfl | rfl | rfl | rfl
  · exact ⟨24, x24, xE1 rfl rfl, a1, xE1 rfl (by show 1 * (d : Int) = _; omega)⟩
  · exact ⟨d - 1, x334, xE2 rfl rfl (by show -1 * 1 + 1 * (d : Int) = _; omega), d1, xE1 rfl (by show 1 * rk_iv h 334 (d - 1) = _; omega)⟩
  · exact ⟨d - 1, x335, xE2 rfl rfl (by show -1 * 1 + 1 * (d : Int) = _; omega), e1, xE1 rfl (by show 1 * rk_iv h 335 (d - 1) = _; omega)⟩
  · exact ⟨(rk_iv h 334 (d - 1)).toNat, x317, xE1 rfl (by show 1 * rk_iv h 334 (d - 1) = _; omega), i1, xE1 rfl (by show 1 * rk_iv h 317 (rk_iv h 334 (d - 1)).toNat = _; omega)⟩
  · exact ⟨34, x34, xE1 rfl rfl, b1, xE1 rfl (by show 1 * rk_iv h 316 34 = _; omega)⟩
  · exact ⟨d - 1, x339, xE2 rfl rfl (by show -1 * 1 + 1 * (d : Int) = _; omega), g1, xE1 rfl (by show 1 * rk_iv h 339 (d - 1) = _; omega)⟩
  · exact ⟨d - 1, x337, xE2 rfl rfl (by show -1 * 1 + 1 * (d : Int) = _; omega), f1, xE1 rfl (by show 1 * rk_iv h 337 (d - 1) = _; omega)⟩
  · exact ⟨39, x39, xE1 rfl rfl, c1, xE1 rfl (by show 1 * rk_iv h 316 39 = _; omega)⟩
theorem xin_1 {x lo hi : Int} (h1 : lo ≤ x) (h2 : x ≤ hi) : xinB x [(lo, hi)] := ⟨(lo, hi), List.mem_cons_self, h1, h2⟩
/-- a piece -/
theorem g_piece {db sb tb rb cb : xB} {cx : List xT} {ka kb : xK} {xu : List xFc} (hrun : g_run xu (g_S db sb tb rb cb cx ka kb) = true) (hI : rk_Iv rk_Y h) (h1 : 1 ≤ d) (h2 : d ≤ 12) (hd : rk_iv h 316 24 = (d : Int)) (hD : 9 ≤ D)
    (hdb : xinB (d : Int) db) (hsb : xinB (rk_iv h 316 34) sb) (htb : xinB (rk_iv h 337 (d - 1)) tb) (hrb : xinB (rk_iv h 316 39) rb) (hub : xinB u [(0, 17)]) (hcb : xinB c cb)
    (hcx : xcs (1 :: g_rt h d u c) cx) (hsa : rk_iv h 335 (d - 1) ≤ rk_iv h 317 (rk_iv h 334 (d - 1)).toNat) (hst : rk_iv h 339 (d - 1) ≤ rk_iv h 316 34)
    (hka : xkn (1 :: g_rt h d u c) ka h) (hkb : xkn (1 :: g_rt h d u c) kb h) (hcl : rk_find cl 0 = some (.ref 316))
    (hQ : ∀ cl' h', rk_find cl' 0 = some (.ref 316) → rk_Iv rk_Y h' → xfr (gP d) h h' → xHA (g_rt h d u c) h' none (g_al xu) → rk_wp D rm_X8_go 72 cl' [] h' Q) : rk_wp D rm_X8_go 72 cl [] h Q := by
  obtain ⟨x334, d1, d3, d2⟩ := x_aok_ok hI ty_334 (k := d - 1) (by omega)
  obtain ⟨x335, e1, e3, e2⟩ := x_aok_ok hI ty_335 (k := d - 1) (by omega)
  obtain ⟨x339, g1, g3, g2⟩ := x_aok_ok hI ty_339 (k := d - 1) (by omega)
  rw [← d2] at d3
  rw [← e2] at e3
  rw [← g2] at g3
  have d4 := x_one1 d3
  obtain ⟨x317, i1, i3, i2⟩ := x_aok_ok hI ty_317 (k := (rk_iv h 334 (d - 1)).toNat) (by omega)
  rw [← i2] at i3
  refine wp_stp (ix := (.aload_n 0, 1)) (t := (73, cl, [.ref 316], h)) rfl (by show (rk_lr cl 0).map _ = _; unfold rk_lr; rw [hcl]; rfl) ?_
  have hlp : xlv (1 :: g_rt h d u c) [(0, .inr [316])] cl := by
    intro k v hk
    rcases rk_find_cons hk with ⟨rfl, rfl⟩ | ⟨-, hk⟩
    · exact ⟨_, hcl, List.mem_cons_self⟩
    · cases hk
  refine xrunB_ok (P := gP d) (h0 := h) (rt := g_rt h d u c) (al := g_al xu) g_ct hrun (rfl : rk_m 118 = some rm_X8_go) hD (g_WP h d u c) ⟨hlp, ⟨List.mem_cons_self, trivial⟩, ⟨⟨rfl, ⟨rfl, fun i b hb => ?_⟩, ?_⟩, ?_, hI, fun b k _ => rfl⟩⟩ rfl hlp (fun cl' h' hl hI' hf hH => ?_)
  · rcases rk_find_cons hb with ⟨rfl, rfl⟩ | ⟨-, hb⟩
    · exact ⟨_, rfl, hdb⟩
    rcases rk_find_cons hb with ⟨rfl, rfl⟩ | ⟨-, hb⟩
    · exact ⟨_, rfl, d3⟩
    rcases rk_find_cons hb with ⟨rfl, rfl⟩ | ⟨-, hb⟩
    · exact ⟨_, rfl, e3⟩
    rcases rk_find_cons hb with ⟨rfl, rfl⟩ | ⟨-, hb⟩
    · exact ⟨_, rfl, i3⟩
    rcases rk_find_cons hb with ⟨rfl, rfl⟩ | ⟨-, hb⟩
    · exact ⟨_, rfl, hsb⟩
    rcases rk_find_cons hb with ⟨rfl, rfl⟩ | ⟨-, hb⟩
    · exact ⟨_, rfl, g3⟩
    rcases rk_find_cons hb with ⟨rfl, rfl⟩ | ⟨-, hb⟩
    · exact ⟨_, rfl, htb⟩
    rcases rk_find_cons hb with ⟨rfl, rfl⟩ | ⟨-, hb⟩
    · exact ⟨_, rfl, hrb⟩
    rcases rk_find_cons hb with ⟨rfl, rfl⟩ | ⟨-, hb⟩
    · exact ⟨_, rfl, hub⟩
    rcases rk_find_cons hb with ⟨rfl, rfl⟩ | ⟨-, hb⟩
    · exact ⟨_, rfl, hcb⟩
    · cases hb
  · intro t ht
    rcases List.mem_append.mp ht with ht | ht
    · exact hcx t ht
    · simp only [List.mem_cons, List.not_mem_nil, or_false] at ht
      rcases ht with rfl | rfl
      · exact ⟨_, xE2 rfl rfl rfl, by show 0 ≤ -1 * rk_iv h 335 (d - 1) + 1 * rk_iv h 317 (rk_iv h 334 (d - 1)).toNat; omega⟩
      · exact ⟨_, xE2 rfl rfl rfl, by show 0 ≤ 1 * rk_iv h 316 34 + -1 * rk_iv h 339 (d - 1); omega⟩
  · intro p hp
    rcases List.mem_append.mp hp with hp | hp
    · exact hka p hp
    · rcases List.mem_append.mp hp with hp | hp
      · exact g_kn_ok hI h1 h2 hd p hp
      · exact hkb p hp
  · obtain ⟨w, g1, g2⟩ := hl 0 _ rfl
    obtain ⟨a, rfl, g3⟩ := xM_ref g2
    cases List.mem_singleton.mp g3
    exact hQ cl' h' g1 hI' hf hH
end RKgo
