/-! code, by pieces (laid by wip/gen/sx11.py) -/
def c_ctX : List (Nat × xCt) := [(38, c_38), (54, c_54), (40, c_40)]
theorem c_ctX_ok : ∀ q c, rk_find c_ctX q = some c → xCon q c := x_cons k_38 (x_cons k_54 (x_cons k_40 x_nil))
def c_lsX : xLs := []
def c_WX (r : Nat) : xC := [((14, 14), ([(1, 1)], [(1, 1)])), ((4 + r, 4 + r), ([(4, 1)], [(4, 1)])), ((15, 17), ([(0, (-1))], [(0, 10000)])), ((18, 293), ([(0, (-1))], [(0, 10000)])), ((1, 1), ([(0, 8)], [(0, 9)]))]
set_option maxRecDepth 100000 in
theorem cX_a : c_run 64 c_ctX c_lsX 4 1 [] (c_an (-1)) (cS [(-2147483648, -1)] xany [(0, 40)] [] (c_kn 2 [(0, 5)])) = true := by decide +kernel
set_option maxRecDepth 100000 in
theorem cX_b : c_run 64 c_ctX c_lsX 4 1 [] (c_an (-1)) (cS [(0, 2147483647)] xany [(0, 40)] [[(1, 1), (3, (-1))]] (c_kn 2 [(0, 5)])) = true := by decide +kernel
set_option maxRecDepth 100000 in
theorem cX_g : [((-2147483648 : Int), (-1 : Int)), (103, 199), (216, 299), (316, 399), (410, 499), (509, 599), (600, 600), (621, 2147483647)].all (fun b => c_run 64 c_ctX c_lsX 4 1 [] (c_an (-2)) (cS [(0, 9)] [b] [(0, 40)] c_in (c_kl 2 [(0, 5)] 14))) = true := by decide +kernel
set_option maxRecDepth 100000 in
theorem cX_f : [((0 : Int), (99 : Int)), (100, 102), (200, 215), (300, 315), (400, 409), (500, 508), (601, 620)].all (fun b => c_run 64 c_ctX c_lsX 4 1 [] (c_an (-4)) (cS [(0, 9)] [b] [(40, 40)] c_in (c_kl 2 [(0, 5)] 14))) = true := by decide +kernel
set_option maxRecDepth 100000 in
theorem cX_t0 : [((0 : Int), (99 : Int)), (100, 102), (200, 215), (300, 315), (400, 409), (500, 508), (601, 620)].all (fun b => c_run 64 c_ctX c_lsX 4 1 (c_WX 0) (c_tk 14 (4 + 0) [(4, 1)]) (cS [(((0 : Nat) : Int), ((0 : Nat) : Int))] [b] [(0, 39)] c_in (c_kl 2 [(0, 5)] 14))) = true := by decide +kernel
set_option maxRecDepth 100000 in
theorem cX_t1 : [((0 : Int), (99 : Int)), (100, 102), (200, 215), (300, 315), (400, 409), (500, 508), (601, 620)].all (fun b => c_run 64 c_ctX c_lsX 4 1 (c_WX 1) (c_tk 14 (4 + 1) [(4, 1)]) (cS [(((1 : Nat) : Int), ((1 : Nat) : Int))] [b] [(0, 39)] c_in (c_kl 2 [(0, 5)] 14))) = true := by decide +kernel
set_option maxRecDepth 100000 in
theorem cX_t2 : [((0 : Int), (99 : Int)), (100, 102), (200, 215), (300, 315), (400, 409), (500, 508), (601, 620)].all (fun b => c_run 64 c_ctX c_lsX 4 1 (c_WX 2) (c_tk 14 (4 + 2) [(4, 1)]) (cS [(((2 : Nat) : Int), ((2 : Nat) : Int))] [b] [(0, 39)] c_in (c_kl 2 [(0, 5)] 14))) = true := by decide +kernel
set_option maxRecDepth 100000 in
theorem cX_t3 : [((0 : Int), (99 : Int)), (100, 102), (200, 215), (300, 315), (400, 409), (500, 508), (601, 620)].all (fun b => c_run 64 c_ctX c_lsX 4 1 (c_WX 3) (c_tk 14 (4 + 3) [(4, 1)]) (cS [(((3 : Nat) : Int), ((3 : Nat) : Int))] [b] [(0, 39)] c_in (c_kl 2 [(0, 5)] 14))) = true := by decide +kernel
set_option maxRecDepth 100000 in
theorem cX_t4 : [((0 : Int), (99 : Int)), (100, 102), (200, 215), (300, 315), (400, 409), (500, 508), (601, 620)].all (fun b => c_run 64 c_ctX c_lsX 4 1 (c_WX 4) (c_tk 14 (4 + 4) [(4, 1)]) (cS [(((4 : Nat) : Int), ((4 : Nat) : Int))] [b] [(0, 39)] c_in (c_kl 2 [(0, 5)] 14))) = true := by decide +kernel
set_option maxRecDepth 100000 in
theorem cX_t5 : [((0 : Int), (99 : Int)), (100, 102), (200, 215), (300, 315), (400, 409), (500, 508), (601, 620)].all (fun b => c_run 64 c_ctX c_lsX 4 1 (c_WX 5) (c_tk 14 (4 + 5) [(4, 1)]) (cS [(((5 : Nat) : Int), ((5 : Nat) : Int))] [b] [(0, 39)] c_in (c_kl 2 [(0, 5)] 14))) = true := by decide +kernel
set_option maxRecDepth 100000 in
theorem cX_t6 : [((0 : Int), (99 : Int)), (100, 102), (200, 215), (300, 315), (400, 409), (500, 508), (601, 620)].all (fun b => c_run 64 c_ctX c_lsX 4 1 (c_WX 6) (c_tk 14 (4 + 6) [(4, 1)]) (cS [(((6 : Nat) : Int), ((6 : Nat) : Int))] [b] [(0, 39)] c_in (c_kl 2 [(0, 5)] 14))) = true := by decide +kernel
set_option maxRecDepth 100000 in
theorem cX_t7 : [((0 : Int), (99 : Int)), (100, 102), (200, 215), (300, 315), (400, 409), (500, 508), (601, 620)].all (fun b => c_run 64 c_ctX c_lsX 4 1 (c_WX 7) (c_tk 14 (4 + 7) [(4, 1)]) (cS [(((7 : Nat) : Int), ((7 : Nat) : Int))] [b] [(0, 39)] c_in (c_kl 2 [(0, 5)] 14))) = true := by decide +kernel
set_option maxRecDepth 100000 in
theorem cX_t8 : [((0 : Int), (99 : Int)), (100, 102), (200, 215), (300, 315), (400, 409), (500, 508), (601, 620)].all (fun b => c_run 64 c_ctX c_lsX 4 1 (c_WX 8) (c_tk 14 (4 + 8) [(4, 1)]) (cS [(((8 : Nat) : Int), ((8 : Nat) : Int))] [b] [(0, 39)] c_in (c_kl 2 [(0, 5)] 14))) = true := by decide +kernel
set_option maxRecDepth 100000 in
theorem cX_t9 : [((0 : Int), (99 : Int)), (100, 102), (200, 215), (300, 315), (400, 409), (500, 508), (601, 620)].all (fun b => c_run 64 c_ctX c_lsX 4 1 (c_WX 9) (c_tk 14 (4 + 9) [(4, 1)]) (cS [(((9 : Nat) : Int), ((9 : Nat) : Int))] [b] [(0, 39)] c_in (c_kl 2 [(0, 5)] 14))) = true := by decide +kernel
theorem cX_t : ∀ r : Nat, r < 10 → ∀ b ∈ [((0 : Int), (99 : Int)), (100, 102), (200, 215), (300, 315), (400, 409), (500, 508), (601, 620)], c_run 64 c_ctX c_lsX 4 1 (c_WX r) (c_tk 14 (4 + r) [(4, 1)]) (cS [((r : Int), (r : Int))] [b] [(0, 39)] c_in (c_kl 2 [(0, 5)] 14)) = true
  | 0, _ => fun b hb => List.all_eq_true.mp cX_t0 b hb
  | 1, _ => fun b hb => List.all_eq_true.mp cX_t1 b hb
  | 2, _ => fun b hb => List.all_eq_true.mp cX_t2 b hb
  | 3, _ => fun b hb => List.all_eq_true.mp cX_t3 b hb
  | 4, _ => fun b hb => List.all_eq_true.mp cX_t4 b hb
  | 5, _ => fun b hb => List.all_eq_true.mp cX_t5 b hb
  | 6, _ => fun b hb => List.all_eq_true.mp cX_t6 b hb
  | 7, _ => fun b hb => List.all_eq_true.mp cX_t7 b hb
  | 8, _ => fun b hb => List.all_eq_true.mp cX_t8 b hb
  | 9, _ => fun b hb => List.all_eq_true.mp cX_t9 b hb
  | _ + 10, h => absurd h (by omega)
def c_ctM : List (Nat × xCt) := [(99, c_99)]
theorem c_ctM_ok : ∀ q c, rk_find c_ctM q = some c → xCon q c := x_cons k_99 x_nil
def c_lsM : xLs := [((93, 70), ([(.inl 3, [(0, 10)])], [], [], [((319, 319), (-1, 10000))], [], [(1, (-1))]))]
def c_WM (_ : Nat) : xC := [((317, 317), ([(1, 1)], [(1, 1)])), ((318, 318), ([(1, 40), (4, 1)], [(1, 40), (4, 1)])), ((319, 343), ([(0, (-1))], [(0, 10000)])), ((316, 316), ([(0, 3)], [(0, 44)]))]
set_option maxRecDepth 100000 in
theorem cM_a : c_run 93 c_ctM c_lsM 3 316 [] (c_an (-1)) (cS [(-2147483648, -1)] xany [(0, 40)] [] (c_kn 316 [])) = true := by decide +kernel
set_option maxRecDepth 100000 in
theorem cM_b : c_run 93 c_ctM c_lsM 3 316 [] (c_an (-1)) (cS [(0, 2147483647)] xany [(0, 40)] [[(1, 1), (3, (-1))]] (c_kn 316 [])) = true := by decide +kernel
set_option maxRecDepth 100000 in
theorem cM_g : [((-2147483648 : Int), (-1 : Int)), (103, 199), (216, 299), (316, 399), (410, 499), (509, 599), (600, 600), (621, 2147483647)].all (fun b => c_run 93 c_ctM c_lsM 3 316 [] (c_an (-2)) (cS [(0, 9)] [b] [(0, 40)] c_in (c_kl 316 [] 317))) = true := by decide +kernel
set_option maxRecDepth 100000 in
theorem cM_f : [((0 : Int), (99 : Int)), (100, 102), (200, 215), (300, 315), (400, 409), (500, 508), (601, 620)].all (fun b => c_run 93 c_ctM c_lsM 3 316 [] (c_an (-4)) (cS [(0, 9)] [b] [(40, 40)] c_in (c_kl 316 [] 317))) = true := by decide +kernel
set_option maxRecDepth 100000 in
theorem cM_t0 : [((0 : Int), (99 : Int)), (100, 102), (200, 215), (300, 315), (400, 409), (500, 508), (601, 620)].all (fun b => c_run 93 c_ctM c_lsM 3 316 (c_WM 0) (c_tk 317 318 [(1, 40), (4, 1)]) (cS [(((0 : Nat) : Int), ((0 : Nat) : Int))] [b] [(0, 39)] c_in (c_kl 316 [] 317))) = true := by decide +kernel
set_option maxRecDepth 100000 in
theorem cM_t1 : [((0 : Int), (99 : Int)), (100, 102), (200, 215), (300, 315), (400, 409), (500, 508), (601, 620)].all (fun b => c_run 93 c_ctM c_lsM 3 316 (c_WM 1) (c_tk 317 318 [(1, 40), (4, 1)]) (cS [(((1 : Nat) : Int), ((1 : Nat) : Int))] [b] [(0, 39)] c_in (c_kl 316 [] 317))) = true := by decide +kernel
set_option maxRecDepth 100000 in
theorem cM_t2 : [((0 : Int), (99 : Int)), (100, 102), (200, 215), (300, 315), (400, 409), (500, 508), (601, 620)].all (fun b => c_run 93 c_ctM c_lsM 3 316 (c_WM 2) (c_tk 317 318 [(1, 40), (4, 1)]) (cS [(((2 : Nat) : Int), ((2 : Nat) : Int))] [b] [(0, 39)] c_in (c_kl 316 [] 317))) = true := by decide +kernel
set_option maxRecDepth 100000 in
theorem cM_t3 : [((0 : Int), (99 : Int)), (100, 102), (200, 215), (300, 315), (400, 409), (500, 508), (601, 620)].all (fun b => c_run 93 c_ctM c_lsM 3 316 (c_WM 3) (c_tk 317 318 [(1, 40), (4, 1)]) (cS [(((3 : Nat) : Int), ((3 : Nat) : Int))] [b] [(0, 39)] c_in (c_kl 316 [] 317))) = true := by decide +kernel
set_option maxRecDepth 100000 in
theorem cM_t4 : [((0 : Int), (99 : Int)), (100, 102), (200, 215), (300, 315), (400, 409), (500, 508), (601, 620)].all (fun b => c_run 93 c_ctM c_lsM 3 316 (c_WM 4) (c_tk 317 318 [(1, 40), (4, 1)]) (cS [(((4 : Nat) : Int), ((4 : Nat) : Int))] [b] [(0, 39)] c_in (c_kl 316 [] 317))) = true := by decide +kernel
set_option maxRecDepth 100000 in
theorem cM_t5 : [((0 : Int), (99 : Int)), (100, 102), (200, 215), (300, 315), (400, 409), (500, 508), (601, 620)].all (fun b => c_run 93 c_ctM c_lsM 3 316 (c_WM 5) (c_tk 317 318 [(1, 40), (4, 1)]) (cS [(((5 : Nat) : Int), ((5 : Nat) : Int))] [b] [(0, 39)] c_in (c_kl 316 [] 317))) = true := by decide +kernel
set_option maxRecDepth 100000 in
theorem cM_t6 : [((0 : Int), (99 : Int)), (100, 102), (200, 215), (300, 315), (400, 409), (500, 508), (601, 620)].all (fun b => c_run 93 c_ctM c_lsM 3 316 (c_WM 6) (c_tk 317 318 [(1, 40), (4, 1)]) (cS [(((6 : Nat) : Int), ((6 : Nat) : Int))] [b] [(0, 39)] c_in (c_kl 316 [] 317))) = true := by decide +kernel
set_option maxRecDepth 100000 in
theorem cM_t7 : [((0 : Int), (99 : Int)), (100, 102), (200, 215), (300, 315), (400, 409), (500, 508), (601, 620)].all (fun b => c_run 93 c_ctM c_lsM 3 316 (c_WM 7) (c_tk 317 318 [(1, 40), (4, 1)]) (cS [(((7 : Nat) : Int), ((7 : Nat) : Int))] [b] [(0, 39)] c_in (c_kl 316 [] 317))) = true := by decide +kernel
set_option maxRecDepth 100000 in
theorem cM_t8 : [((0 : Int), (99 : Int)), (100, 102), (200, 215), (300, 315), (400, 409), (500, 508), (601, 620)].all (fun b => c_run 93 c_ctM c_lsM 3 316 (c_WM 8) (c_tk 317 318 [(1, 40), (4, 1)]) (cS [(((8 : Nat) : Int), ((8 : Nat) : Int))] [b] [(0, 39)] c_in (c_kl 316 [] 317))) = true := by decide +kernel
set_option maxRecDepth 100000 in
theorem cM_t9 : [((0 : Int), (99 : Int)), (100, 102), (200, 215), (300, 315), (400, 409), (500, 508), (601, 620)].all (fun b => c_run 93 c_ctM c_lsM 3 316 (c_WM 9) (c_tk 317 318 [(1, 40), (4, 1)]) (cS [(((9 : Nat) : Int), ((9 : Nat) : Int))] [b] [(0, 39)] c_in (c_kl 316 [] 317))) = true := by decide +kernel
theorem cM_t : ∀ r : Nat, r < 10 → ∀ b ∈ [((0 : Int), (99 : Int)), (100, 102), (200, 215), (300, 315), (400, 409), (500, 508), (601, 620)], c_run 93 c_ctM c_lsM 3 316 (c_WM r) (c_tk 317 318 [(1, 40), (4, 1)]) (cS [((r : Int), (r : Int))] [b] [(0, 39)] c_in (c_kl 316 [] 317)) = true
  | 0, _ => fun b hb => List.all_eq_true.mp cM_t0 b hb
  | 1, _ => fun b hb => List.all_eq_true.mp cM_t1 b hb
  | 2, _ => fun b hb => List.all_eq_true.mp cM_t2 b hb
  | 3, _ => fun b hb => List.all_eq_true.mp cM_t3 b hb
  | 4, _ => fun b hb => List.all_eq_true.mp cM_t4 b hb
  | 5, _ => fun b hb => List.all_eq_true.mp cM_t5 b hb
  | 6, _ => fun b hb => List.all_eq_true.mp cM_t6 b hb
  | 7, _ => fun b hb => List.all_eq_true.mp cM_t7 b hb
  | 8, _ => fun b hb => List.all_eq_true.mp cM_t8 b hb
  | 9, _ => fun b hb => List.all_eq_true.mp cM_t9 b hb
  | _ + 10, h => absurd h (by omega)
def cPX (r l b k : Nat) : Prop := (b = 14 ∧ k = r) ∨ (b = 4 + r ∧ k = l) ∨ (15 ≤ b ∧ b ≤ 293) ∨ b = 1
def cPM (r l b k : Nat) : Prop := (b = 317 ∧ k = r) ∨ (b = 318 ∧ k = 40 * r + l) ∨ (319 ≤ b ∧ b ≤ 343) ∨ (b = 316 ∧ 3 ≤ k ∧ k ≤ 44)
theorem c_WPX (r l : Nat) (c n : Int) : xWP (cPX r l) [1, (r : Int), c, n, (l : Int)] (c_WX r) := by
  intro w hw
  simp only [c_WX, List.mem_cons, List.not_mem_nil, or_false] at hw
  rcases hw with rfl | rfl | rfl | rfl | rfl <;> exact ⟨_, _, xE1 rfl rfl, xE1 rfl rfl, fun b k h1 h2 h3 h4 => by dsimp only at h1 h2; unfold cPX; omega⟩
theorem c_WPM (r l : Nat) (c n : Int) : xWP (cPM r l) [1, (r : Int), c, n, (l : Int)] (c_WM r) := by
  intro w hw
  simp only [c_WM, List.mem_cons, List.not_mem_nil, or_false] at hw
  rcases hw with rfl | rfl | rfl | rfl
  · exact ⟨_, _, xE1 rfl rfl, xE1 rfl rfl, fun b k h1 h2 h3 h4 => by dsimp only at h1 h2; unfold cPM; omega⟩
  · exact ⟨_, _, xE2 rfl rfl rfl, xE2 rfl rfl rfl, fun b k h1 h2 h3 h4 => by dsimp only at h1 h2; unfold cPM; omega⟩
  · exact ⟨_, _, xE1 rfl rfl, xE1 rfl rfl, fun b k h1 h2 h3 h4 => by dsimp only at h1 h2; unfold cPM; omega⟩
  · exact ⟨_, _, xE1 rfl rfl, xE1 rfl rfl, fun b k h1 h2 h3 h4 => by dsimp only at h1 h2; unfold cPM; omega⟩
theorem ty_25 : x_fok 2 5 [(0, 10)] = true := by decide +kernel
theorem ty_3160 : x_fok 316 0 [(0, 10)] = true := by decide +kernel
theorem ty_14 : x_aok 14 10 [(0, 40)] = true := by decide +kernel
/-- WorthKeeping.code, exactly -/
theorem codeX_ok {D : Nat} {h : rk_S} (hD : 4 ≤ D) (hI : rk_Iv rk_Y h) (r c : Int32) : rk_wp D rm_X7_code 0 (lv_args 0 [.ref 1, .int r, .int c]) [] h (fun v h' => rk_Iv rk_Y h' ∧ cPost 2 5 14 (fun r => 4 + r) (fun _ l => l) cPX h r.toInt c.toInt v h') :=
  c_main (cit := fun _ => [(4, 1)]) cX_a cX_b (fun b hb => List.all_eq_true.mp cX_g b hb) (fun b hb => List.all_eq_true.mp cX_f b hb) cX_t c_ctX_ok rfl hD (fun _ _ _ _ => xE1 rfl rfl) (fun r l c n => xE1 rfl (by omega)) c_WPX ty_25 ty_14 hI r c
/-- WorthKeepingModel.code, exactly -/
theorem codeM_ok {D : Nat} {h : rk_S} (hD : 3 ≤ D) (hI : rk_Iv rk_Y h) (r c : Int32) : rk_wp D rm_X8_code 0 (lv_args 0 [.ref 316, .int r, .int c]) [] h (fun v h' => rk_Iv rk_Y h' ∧ cPost 316 0 317 (fun _ => 318) (fun r l => 40 * r + l) cPM h r.toInt c.toInt v h') :=
  c_main (cit := fun _ => [(1, 40), (4, 1)]) cM_a cM_b (fun b hb => List.all_eq_true.mp cM_g b hb) (fun b hb => List.all_eq_true.mp cM_f b hb) cM_t c_ctM_ok rfl hD (fun _ _ _ _ => rfl) (fun r l c n => xE2 rfl rfl (by omega)) c_WPM ty_3160 ty_317 hI r c
