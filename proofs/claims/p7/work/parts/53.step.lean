/-! one instruction of the symbolic machine: what may come behind it -/
abbrev xG : Type := Nat × xL × List xV × xW
def xild (lv : xL) (st : List xV) (S : xW) (k pc' : Nat) : Option (List xG) := match rk_find lv k with
  | some (.inl t) => some [(pc', lv, .inl t :: st, S)]
  | _ => none
def xald (lv : xL) (st : List xV) (S : xW) (k pc' : Nat) : Option (List xG) := match rk_find lv k with
  | some (.inr t) => some [(pc', lv, .inr t :: st, S)]
  | _ => none
def xist (M : rk_M) (lv : xL) (st : List xV) (S : xW) (k pc' : Nat) : Option (List xG) := match st with
  | .inl t :: s => bif Nat.blt k M.2.2.1 then some [(pc', (k, .inl t) :: lv, s, S)] else none
  | _ => none
def xast (M : rk_M) (lv : xL) (st : List xV) (S : xW) (k pc' : Nat) : Option (List xG) := match st with
  | .inr t :: s => bif Nat.blt k M.2.2.1 then some [(pc', (k, .inr t) :: lv, s, S)] else none
  | _ => none
def xinc (M : rk_M) (pc : Nat) (lv : xL) (st : List xV) (S : xW) (k : Nat) (n : Int) : Option (List xG) := match rk_find lv k with
  | some (.inl t) => bif Nat.blt k M.2.2.1 then some [(pc + 3, (k, .inl (xlin S (xadc (Int32.ofInt n).toInt t)).1) :: lv, st, (xlin S (xadc (Int32.ofInt n).toInt t)).2)] else none
  | _ => none
def xbin (pc : Nat) (lv : xL) (st : List xV) (S : xW) (f : xW → xT → xT → xO) : Option (List xG) := match st with
  | .inl y :: .inl x :: s => some [(pc + 1, lv, .inl (f S x y).1 :: s, (f S x y).2)]
  | _ => none
def xdv (pc : Nat) (lv : xL) (st : List xV) (S : xW) (f : xW → xT → xT → Option xO) : Option (List xG) := match st with
  | .inl y :: .inl x :: s => match f S x y with
    | some o => some [(pc + 1, lv, .inl o.1 :: s, o.2)]
    | none => none
  | _ => none
def xsuc (pc : Nat) (lv : xL) (st : List xV) (o : Option xW) : List xG := match o with
  | some S => [(pc, lv, st, S)]
  | none => []
def xif (pc : Nat) (lv : xL) (s : List xV) (S : xW) (o : Jvm.ClassFile.Cond) (off : Int) (d : xT) : Option (List xG) := match rk_jmp pc off with
  | some tg => some (xsuc tg lv s (xcmp S o d true) ++ xsuc (pc + 3) lv s (xcmp S o d false))
  | none => none
def xsws (pc : Nat) (lv : xL) (s : List xV) (S : xW) (t : xT) (lo : Int) (offs : Array Int) : Nat → Option (List xG)
  | 0 => some []
  | j + 1 => match offs[j]? with
    | none => none
    | some o => match rk_jmp pc o, xsws pc lv s S t lo offs j with
      | some tg, some L => some (xsuc tg lv s (xequ S (xadc (-(lo + Int.ofNat j)) t)) ++ L)
      | _, _ => none
def xsw (pc : Nat) (lv : xL) (st : List xV) (S : xW) (d lo hi : Int) (offs : Array Int) : Option (List xG) := match st with
  | .inl t :: s => match rk_jmp pc d, xsws pc lv s S t lo offs (hi - lo + 1).toNat with
    | some tg, some L => some (xsuc tg lv s (xasm S (xadc (lo - 1) (xscl (-1) t))) ++ (xsuc tg lv s (xasm S (xadc (-(hi + 1)) t)) ++ L))
    | _, _ => none
  | _ => none
def xgf (M : rk_M) (pc : Nat) (lv : xL) (st : List xV) (S : xW) (x : Nat) : Option (List xG) := match st with
  | .inr l :: s => match rk_find (rk_fl M.2.2.2.2.1) x with
    | some f => bif Nat.beq f.2.2.1 2 then (match xfR f.1 f.2.1 l with
        | some l' => some [(pc + 3, lv, .inr l' :: s, S)]
        | none => none) else (match xfI f.1 f.2.1 l with
        | some b => some [(pc + 3, lv, .inl (xrd S l (xcst (Int.ofNat f.2.1)) b).1 :: s, (xrd S l (xcst (Int.ofNat f.2.1)) b).2)]
        | none => none)
    | none => none
  | _ => none
def xpf (W : xC) (M : rk_M) (pc : Nat) (lv : xL) (st : List xV) (S : xW) (x : Nat) : Option (List xG) := match st with
  | .inl t :: .inr l :: s => match rk_find (rk_fl M.2.2.2.2.1) x with
    | some f => bif !f.2.2.2.1 && ((Nat.beq f.2.2.1 0 || (Nat.beq f.2.2.1 1 && xin S t [(0, 1)])) && l.all (xwI W S f.1 f.2.1 t)) then some [(pc + 3, lv, s, xwr S l (xcst (Int.ofNat f.2.1)) t)] else none
    | none => none
  | _ => none
def xia (kd pc : Nat) (lv : xL) (st : List xV) (S : xW) : Option (List xG) := match st with
  | .inl i :: .inr l :: s => match xaI S kd i l with
    | some b => some [(pc + 1, lv, .inl (xrd S l i b).1 :: s, (xrd S l i b).2)]
    | none => none
  | _ => none
def xaa (pc : Nat) (lv : xL) (st : List xV) (S : xW) : Option (List xG) := match st with
  | .inl i :: .inr l :: s => match xaR S i l with
    | some b => some [(pc + 1, lv, .inr b :: s, S)]
    | none => none
  | _ => none
def xis (W : xC) (kd pc : Nat) (lv : xL) (st : List xV) (S : xW) : Option (List xG) := match st with
  | .inl t :: .inl i :: .inr l :: s => bif (Nat.beq kd 9 || xin S t [(0, 1)]) && l.all (xwA W S kd i t) then some [(pc + 1, lv, s, xwr S l i t)] else none
  | _ => none
def xas (W : xC) (pc : Nat) (lv : xL) (st : List xV) (S : xW) : Option (List xG) := match st with
  | .inr v :: .inl i :: .inr l :: s => bif l.all (xwR W S i v) then some [(pc + 1, lv, s, (S.1, S.2.1, S.2.2.1, xkeep S l i))] else none
  | _ => none
def xstp (W : xC) (M : rk_M) (pc : Nat) (lv : xL) (st : List xV) (S : xW) (i : Instr) : Option (List xG) := match i with
  | .iconst n => some [(pc + 1, lv, .inl (xcst (Int32.ofInt n).toInt) :: st, S)]
  | .bipush n => some [(pc + 2, lv, .inl (xcst (Int8.ofInt n).toInt32.toInt) :: st, S)]
  | .sipush n => some [(pc + 3, lv, .inl (xcst (Int16.ofInt n).toInt32.toInt) :: st, S)]
  | .ldc x => (rk_find (rk_cl M.2.2.2.2.1) x).map (fun v => [(pc + 2, lv, .inl (xcst v.toInt) :: st, S)])
  | .ldc_w x => (rk_find (rk_cl M.2.2.2.2.1) x).map (fun v => [(pc + 3, lv, .inl (xcst v.toInt) :: st, S)])
  | .iload_n k => xild lv st S k.val (pc + 1)
  | .iload k => xild lv st S k (pc + 2)
  | .aload_n k => xald lv st S k.val (pc + 1)
  | .aload k => xald lv st S k (pc + 2)
  | .istore_n k => xist M lv st S k.val (pc + 1)
  | .istore k => xist M lv st S k (pc + 2)
  | .astore_n k => xast M lv st S k.val (pc + 1)
  | .astore k => xast M lv st S k (pc + 2)
  | .iinc k n => xinc M pc lv st S k n
  | .iadd => xbin pc lv st S xiadd
  | .isub => xbin pc lv st S xisub
  | .imul => xbin pc lv st S ximul
  | .iand => xbin pc lv st S xiand
  | .ior => xbin pc lv st S xior
  | .ixor => xbin pc lv st S xoth
  | .ishl => xbin pc lv st S xishl
  | .ishr => xbin pc lv st S xoth
  | .iushr => xbin pc lv st S xoth
  | .idiv => xdv pc lv st S xidiv
  | .irem => xdv pc lv st S xirem
  | .dup => match st with
    | v :: s => some [(pc + 1, lv, v :: v :: s, S)]
    | _ => none
  | .dup2 => match st with
    | v :: w :: s => some [(pc + 1, lv, v :: w :: v :: w :: s, S)]
    | _ => none
  | .pop => match st with
    | _ :: s => some [(pc + 1, lv, s, S)]
    | _ => none
  | .ifCond o off => match st with
    | .inl t :: s => xif pc lv s S o off t
    | _ => none
  | .if_icmp o off => match st with
    | .inl y :: .inl x :: s => xif pc lv s S o off (xsub x y)
    | _ => none
  | .goto off => (rk_jmp pc off).map (fun t => [(t, lv, st, S)])
  | .tableswitch d lo hi offs => xsw pc lv st S d lo hi offs
  | .getfield x => xgf M pc lv st S x
  | .putfield x => xpf W M pc lv st S x
  | .iaload => xia 9 pc lv st S
  | .baload => xia 10 pc lv st S
  | .aaload => xaa pc lv st S
  | .iastore => xis W 9 pc lv st S
  | .bastore => xis W 10 pc lv st S
  | .aastore => xas W pc lv st S
  | _ => none
section RKZ
variable {P : Nat → Nat → Prop} {h0 h : rk_S} {r : List Int} {S : xW} {lv : xL} {st : List xV} {cl : rk_L} {ck : List Value} {D : Nat} {M : rk_M} {pc : Nat} {Q : Option Value → rk_S → Prop} {L : List xG} {W : xC} {i : Instr} {len : Nat}
def xcont (P : Nat → Nat → Prop) (h0 : rk_S) (r : List Int) (D : Nat) (M : rk_M) (Q : Option Value → rk_S → Prop) (L : List xG) : Prop := ∀ s ∈ L, ∀ r' cl ck h', r <+: r' → xA P h0 r' s.2.1 s.2.2.1 s.2.2.2 cl ck h' → rk_wp D M s.1 cl ck h' Q
theorem x_refl (r : List Int) : r <+: r := ⟨[], List.append_nil r⟩
theorem x_one {pc' : Nat} {lv' : xL} {st' : List xV} {S' : xW} {cl' : rk_L} {ck' : List Value} {h' : rk_S} (hix : rk_find M.2.2.2.2.2 pc = some (i, len)) (ht : rk_stp M pc cl ck h i = some (pc', cl', ck', h')) {r' : List Int} (hp : r <+: r') (kk : xcont P h0 r D M Q [(pc', lv', st', S')]) (hA : xA P h0 r' lv' st' S' cl' ck' h') : rk_wp D M pc cl ck h Q :=
  wp_stp hix ht (kk _ List.mem_cons_self _ _ _ _ hp hA)
theorem xild_ok {k pc' : Nat} (hs : xild lv st S k pc' = some L) (hA : xA P h0 r lv st S cl ck h) (hix : rk_find M.2.2.2.2.2 pc = some (i, len)) (hi : ∀ x, rk_li cl k = some x → rk_stp M pc cl ck h i = some (pc', cl, .int x :: ck, h)) (kk : xcont P h0 r D M Q L) : rk_wp D M pc cl ck h Q := by
  unfold xild at hs
  split at hs
  · rename_i t ht
    cases hs
    obtain ⟨w, g1, g2⟩ := hA.1 k _ ht
    obtain ⟨x, rfl, g3⟩ := xM_int g2
    exact x_one hix (hi x (by unfold rk_li; rw [g1])) (x_refl r) kk ⟨hA.1, ⟨g3, hA.2.1⟩, hA.2.2⟩
  · cases hs
theorem xald_ok {k pc' : Nat} (hs : xald lv st S k pc' = some L) (hA : xA P h0 r lv st S cl ck h) (hix : rk_find M.2.2.2.2.2 pc = some (i, len)) (hi : ∀ x, rk_lr cl k = some x → rk_stp M pc cl ck h i = some (pc', cl, .ref x :: ck, h)) (kk : xcont P h0 r D M Q L) : rk_wp D M pc cl ck h Q := by
  unfold xald at hs
  split at hs
  · rename_i t ht
    cases hs
    obtain ⟨w, g1, g2⟩ := hA.1 k _ ht
    obtain ⟨x, rfl, g3⟩ := xM_ref g2
    exact x_one hix (hi x (by unfold rk_lr; rw [g1])) (x_refl r) kk ⟨hA.1, ⟨g3, hA.2.1⟩, hA.2.2⟩
  · cases hs
theorem xist_ok {k pc' : Nat} (hs : xist M lv st S k pc' = some L) (hA : xA P h0 r lv st S cl ck h) (hix : rk_find M.2.2.2.2.2 pc = some (i, len)) (hi : rk_stp M pc cl ck h i = rk_sti M cl ck h k pc') (kk : xcont P h0 r D M Q L) : rk_wp D M pc cl ck h Q := by
  unfold xist at hs
  split at hs
  · rename_i t s
    cases e : Nat.blt k M.2.2.1 with
    | false => rw [e] at hs; cases hs
    | true =>
      rw [e] at hs
      cases hs
      obtain ⟨w, c, rfl, g2, g3⟩ := xsk_cons hA.2.1
      obtain ⟨x, rfl, g4⟩ := xM_int g2
      refine x_one hix (hi.trans ?_) (x_refl r) kk ⟨xlv_up hA.1 g2, g3, hA.2.2⟩
      simp only [rk_sti, e, cond_true]
  · cases hs
theorem xast_ok {k pc' : Nat} (hs : xast M lv st S k pc' = some L) (hA : xA P h0 r lv st S cl ck h) (hix : rk_find M.2.2.2.2.2 pc = some (i, len)) (hi : rk_stp M pc cl ck h i = rk_sta M cl ck h k pc') (kk : xcont P h0 r D M Q L) : rk_wp D M pc cl ck h Q := by
  unfold xast at hs
  split at hs
  · rename_i t s
    cases e : Nat.blt k M.2.2.1 with
    | false => rw [e] at hs; cases hs
    | true =>
      rw [e] at hs
      cases hs
      obtain ⟨w, c, rfl, g2, g3⟩ := xsk_cons hA.2.1
      obtain ⟨x, rfl, g4⟩ := xM_ref g2
      refine x_one hix (hi.trans ?_) (x_refl r) kk ⟨xlv_up hA.1 g2, g3, hA.2.2⟩
      simp only [rk_sta, e, cond_true]
  · cases hs
theorem xinc_ok {k : Nat} {n : Int} (hs : xinc M pc lv st S k n = some L) (hA : xA P h0 r lv st S cl ck h) (hix : rk_find M.2.2.2.2.2 pc = some (.iinc k n, len)) (kk : xcont P h0 r D M Q L) : rk_wp D M pc cl ck h Q := by
  unfold xinc at hs
  split at hs
  · rename_i t ht
    cases e : Nat.blt k M.2.2.1 with
    | false => rw [e] at hs; cases hs
    | true =>
      rw [e] at hs
      cases hs
      obtain ⟨w, g1, g2⟩ := hA.1 k _ ht
      obtain ⟨x, rfl, g3⟩ := xM_int g2
      obtain ⟨r', hp, hS', hE'⟩ := xlin_ok hA.2.2 (xadc_ok hA.2.2.1.2.1.1 (z := (Int32.ofInt n).toInt) g3) (w := x + Int32.ofInt n) (fun h1 h2 => by rw [Int32.toInt_add, Int.add_comm]; exact rk_bm h1 h2)
      refine x_one hix ?_ hp kk ⟨xlv_up (w := .int (x + Int32.ofInt n)) (xlv_mono hp hA.1) hE', xsk_mono hp hA.2.1, hS'⟩
      simp only [rk_stp, rk_li, g1, e, cond_true]
  · cases hs
theorem xbin_ok {f : xW → xT → xT → xO} {g : Int32 → Int32 → Int32} (hs : xbin pc lv st S f = some L) (hA : xA P h0 r lv st S cl ck h) (hix : rk_find M.2.2.2.2.2 pc = some (i, len)) (hi : rk_stp M pc cl ck h i = rk_bin pc cl ck h g) (hf : ∀ (a b : xT) (x y : Int32), xE r a = some x.toInt → xE r b = some y.toInt → xok P h0 h r (f S a b) (g x y)) (kk : xcont P h0 r D M Q L) : rk_wp D M pc cl ck h Q := by
  unfold xbin at hs
  split at hs
  · rename_i b a s
    cases hs
    obtain ⟨w, c, rfl, g2, g3⟩ := xsk_cons hA.2.1
    obtain ⟨y, rfl, g4⟩ := xM_int g2
    obtain ⟨w, c, rfl, g5, g6⟩ := xsk_cons g3
    obtain ⟨x, rfl, g7⟩ := xM_int g5
    obtain ⟨r', hp, hS', hE'⟩ := hf a b x y g7 g4
    exact x_one hix (hi.trans rfl) hp kk ⟨xlv_mono hp hA.1, ⟨hE', xsk_mono hp g6⟩, hS'⟩
  · cases hs
theorem xdv_ok {f : xW → xT → xT → Option xO} {g : Int32 → Int32 → Int32} (hs : xdv pc lv st S f = some L) (hA : xA P h0 r lv st S cl ck h) (hix : rk_find M.2.2.2.2.2 pc = some (i, len)) (hi : ∀ x y c, ¬ y = 0 → rk_stp M pc cl (.int y :: .int x :: c) h i = some (pc + 1, cl, .int (g x y) :: c, h)) (hf : ∀ (a b : xT) (o : xO) (x y : Int32), f S a b = some o → xE r a = some x.toInt → xE r b = some y.toInt → ¬ y = 0 ∧ xok P h0 h r o (g x y)) (kk : xcont P h0 r D M Q L) : rk_wp D M pc cl ck h Q := by
  unfold xdv at hs
  split at hs
  · rename_i b a s
    split at hs
    · rename_i o ho
      cases hs
      obtain ⟨w, c, rfl, g2, g3⟩ := xsk_cons hA.2.1
      obtain ⟨y, rfl, g4⟩ := xM_int g2
      obtain ⟨w, c, rfl, g5, g6⟩ := xsk_cons g3
      obtain ⟨x, rfl, g7⟩ := xM_int g5
      obtain ⟨hn, r', hp, hS', hE'⟩ := hf a b o x y ho g7 g4
      exact x_one hix (hi x y c hn) hp kk ⟨xlv_mono hp hA.1, ⟨hE', xsk_mono hp g6⟩, hS'⟩
    · cases hs
  · cases hs
theorem xcont_l {L1 L2 : List xG} (kk : xcont P h0 r D M Q (L1 ++ L2)) : xcont P h0 r D M Q L1 := fun s hs => kk s (List.mem_append_left _ hs)
theorem xcont_r {L1 L2 : List xG} (kk : xcont P h0 r D M Q (L1 ++ L2)) : xcont P h0 r D M Q L2 := fun s hs => kk s (List.mem_append_right _ hs)
theorem xsuc_ok {pc' : Nat} {o : Option xW} (hA : xlv r lv cl ∧ xsk r st ck) (ho : ∃ S', o = some S' ∧ xS P h0 r S' h) (kk : xcont P h0 r D M Q (xsuc pc' lv st o)) : rk_wp D M pc' cl ck h Q := by
  obtain ⟨S', rfl, hS'⟩ := ho
  exact kk _ List.mem_cons_self _ _ _ _ (x_refl r) ⟨hA.1, hA.2, hS'⟩
theorem xif_ok {s : List xV} {c : List Value} {o : Jvm.ClassFile.Cond} {off x y : Int} {d : xT} (hs : xif pc lv s S o off d = some L) (hl : xlv r lv cl) (hc : xsk r s c) (hS : xS P h0 r S h) (hd : xE r d = some (x - y)) (hw : ∀ tg, rk_jmp pc off = some tg → (rk_cmpZ o x y = true → rk_wp D M tg cl c h Q) → (rk_cmpZ o x y = false → rk_wp D M (pc + 3) cl c h Q) → rk_wp D M pc cl ck h Q) (kk : xcont P h0 r D M Q L) : rk_wp D M pc cl ck h Q := by
  unfold xif at hs
  split at hs
  · rename_i tg htg
    cases hs
    refine hw tg htg (fun e => ?_) (fun e => ?_)
    · obtain ⟨S', h1, h2, h3⟩ := xcmp_ok hS.1 hd e
      exact xsuc_ok ⟨hl, hc⟩ ⟨S', h1, xS_same hS h2 h3⟩ (xcont_l kk)
    · obtain ⟨S', h1, h2, h3⟩ := xcmp_ok hS.1 hd e
      exact xsuc_ok ⟨hl, hc⟩ ⟨S', h1, xS_same hS h2 h3⟩ (xcont_r kk)
  · cases hs
theorem xsws_ok {s : List xV} {c : List Value} {t : xT} {x lo : Int} {offs : Array Int} (hl : xlv r lv cl) (hc : xsk r s c) (hS : xS P h0 r S h) (ht : xE r t = some x) : ∀ {n : Nat} {L : List xG}, xsws pc lv s S t lo offs n = some L → xcont P h0 r D M Q L → ∀ j, j < n → x = lo + j → ∃ o tg, offs[j]? = some o ∧ rk_jmp pc o = some tg ∧ rk_wp D M tg cl c h Q
  | 0, _, _, _, j, hj, _ => absurd hj (Nat.not_lt_zero j)
  | n + 1, L, hs, kk, j, hj, hx => by
    rw [xsws] at hs
    split at hs
    · cases hs
    · rename_i o ho
      split at hs
      · rename_i tg L' htg hL'
        cases hs
        by_cases e : j = n
        · subst e
          refine ⟨o, tg, ho, htg, ?_⟩
          obtain ⟨S', h1, h2, h3⟩ := xequ_ok hS.1 (d := xadc (-(lo + Int.ofNat j)) t) (by rw [xadc_ok hS.1.2.1.1 ht]; congr 1; simp only [Int.ofNat_eq_natCast]; omega)
          exact xsuc_ok ⟨hl, hc⟩ ⟨S', h1, xS_same hS h2 h3⟩ (xcont_l kk)
        · exact xsws_ok hl hc hS ht hL' (xcont_r kk) j (by omega) hx
      · cases hs
theorem xsw_ok {d lo hi : Int} {offs : Array Int} (hs : xsw pc lv st S d lo hi offs = some L) (hA : xA P h0 r lv st S cl ck h) (hix : rk_find M.2.2.2.2.2 pc = some (.tableswitch d lo hi offs, len)) (kk : xcont P h0 r D M Q L) : rk_wp D M pc cl ck h Q := by
  unfold xsw at hs
  split at hs
  · rename_i t s
    split at hs
    · rename_i tg L' htg hL'
      cases hs
      obtain ⟨w, c, rfl, g2, g3⟩ := xsk_cons hA.2.1
      obtain ⟨x, rfl, g4⟩ := xM_int g2
      by_cases q : x.toInt < lo ∨ hi < x.toInt
      · have hw : rk_wp D M tg cl c h Q := by
          rcases q with q | q
          · obtain ⟨S', h1, h2, h3⟩ := xasm_ok hA.2.2.1 (xadc_ok hA.2.2.1.2.1.1 (z := lo - 1) (xscl_ok (c := -1) g4)) (by omega)
            exact xsuc_ok ⟨hA.1, g3⟩ ⟨S', h1, xS_same hA.2.2 h2 h3⟩ (xcont_l kk)
          · obtain ⟨S', h1, h2, h3⟩ := xasm_ok hA.2.2.1 (xadc_ok hA.2.2.1.2.1.1 (z := -(hi + 1)) g4) (by omega)
            exact xsuc_ok ⟨hA.1, g3⟩ ⟨S', h1, xS_same hA.2.2 h2 h3⟩ (xcont_l (xcont_r kk))
        exact wp_stp (t := (tg, cl, c, h)) hix (by simp only [rk_stp, rk_sw, decide_eq_true q, cond_true, htg, Option.map_some]) hw
      · obtain ⟨o, tg', g5, g6, g7⟩ := xsws_ok (x := x.toInt) hA.1 g3 hA.2.2 g4 hL' (xcont_r (xcont_r kk)) (x.toInt - lo).toNat (by omega) (by omega)
        exact wp_stp (t := (tg', cl, c, h)) hix (by simp only [rk_stp, rk_sw, decide_eq_false q, cond_false, g5, g6, Option.map_some]) g7
    · cases hs
  · cases hs
theorem xgf_ok {x : Nat} (hs : xgf M pc lv st S x = some L) (hA : xA P h0 r lv st S cl ck h) (hix : rk_find M.2.2.2.2.2 pc = some (.getfield x, len)) (kk : xcont P h0 r D M Q L) : rk_wp D M pc cl ck h Q := by
  unfold xgf at hs
  split at hs
  · rename_i l s
    split at hs
    · rename_i f hf
      obtain ⟨w, c, rfl, g2, g3⟩ := xsk_cons hA.2.1
      obtain ⟨a, rfl, g4⟩ := xM_ref g2
      cases e : Nat.beq f.2.2.1 2 with
      | true =>
        rw [e] at hs
        dsimp only [cond] at hs
        split at hs
        · rename_i l' hl'
          cases hs
          obtain ⟨vs, b, e1, e2, e3⟩ := xfR_ok hA.2.2.2.2.1 hl' g4
          exact wp_gf hix hf e1 rfl e2 (kk _ List.mem_cons_self _ _ _ _ (x_refl r) ⟨hA.1, ⟨e3, g3⟩, hA.2.2⟩)
        · cases hs
      | false =>
        rw [e] at hs
        dsimp only [cond] at hs
        split at hs
        · rename_i b hb
          cases hs
          obtain ⟨vs, y, e1, e2, e3⟩ := xfI_ok hA.2.2.2.2.1 hb g4
          obtain ⟨r', hp, hS', hE'⟩ := xrd_ok hA.2.2 g4 (xcst_ok hA.2.2.1.2.1.1 (Int.ofNat f.2.1)) e2 e3
          exact wp_gf hix hf e1 rfl e2 (kk _ List.mem_cons_self _ _ _ _ hp ⟨xlv_mono hp hA.1, ⟨hE', xsk_mono hp g3⟩, hS'⟩)
        · cases hs
    · cases hs
  · cases hs
theorem x_bit {y : Int32} (h : xinB y.toInt [(0, 1)]) : y = 0 ∨ y = 1 := by
  obtain ⟨c, h1, h2, h3⟩ := h
  rw [List.mem_singleton.mp h1] at h2 h3
  dsimp only at h2 h3
  by_cases e : y.toInt = 0
  · exact Or.inl (Int32.toInt_inj.mp e)
  · exact Or.inr (Int32.toInt_inj.mp (by show y.toInt = 1; omega))
theorem xpf_ok (hW : xWP P r W) {x : Nat} (hs : xpf W M pc lv st S x = some L) (hA : xA P h0 r lv st S cl ck h) (hix : rk_find M.2.2.2.2.2 pc = some (.putfield x, len)) (kk : xcont P h0 r D M Q L) : rk_wp D M pc cl ck h Q := by
  unfold xpf at hs
  split at hs
  · rename_i t l s
    split at hs
    · rename_i f hf
      cases e : !f.2.2.2.1 && ((Nat.beq f.2.2.1 0 || (Nat.beq f.2.2.1 1 && xin S t [(0, 1)])) && l.all (xwI W S f.1 f.2.1 t)) with
      | false => rw [e] at hs; cases hs
      | true =>
        rw [e] at hs
        cases hs
        rw [Bool.and_eq_true, Bool.and_eq_true, Bool.or_eq_true, Bool.and_eq_true, Bool.not_eq_true'] at e
        obtain ⟨e1, e2, e3⟩ := e
        obtain ⟨w, c, rfl, g2, g3⟩ := xsk_cons hA.2.1
        obtain ⟨y, rfl, g4⟩ := xM_int g2
        obtain ⟨w, c, rfl, g5, g6⟩ := xsk_cons g3
        obtain ⟨a, rfl, g7⟩ := xM_ref g5
        obtain ⟨f1, vs, w0, f2, f3, f4, f5, f6⟩ := xwI_ok hA.2.2 hW (List.all_eq_true.mp e3 a g7) g4
        refine wp_pf hix hf f2 rfl f1 f3 ?_ e1 (kk _ List.mem_cons_self _ _ _ _ (x_refl r) ⟨hA.1, g6, xwr_ok hA.2.2 g7 (xcst_ok hA.2.2.1.2.1.1 (Int.ofNat f.2.1)) g4 f4 f5 f6⟩)
        unfold rk_fit
        dsimp only
        rcases e2 with e2 | ⟨e2, e4⟩
        · rw [e2]; rfl
        · rw [e2]
          rcases x_bit (xin_ok hA.2.2.1 e4 g4) with rfl | rfl <;> simp
    · cases hs
  · cases hs
theorem xia_ok {kd : Nat} (hs : xia kd pc lv st S = some L) (hA : xA P h0 r lv st S cl ck h) (hix : rk_find M.2.2.2.2.2 pc = some (i, len)) (hi : ∀ (j : Int32) (a : Nat) (c : List Value) (vs : List Value) (v : Value), h[a]? = some (kd, vs) → 0 ≤ j.toInt → vs[j.toNatClampNeg]? = some v → rk_stp M pc cl (.int j :: .ref a :: c) h i = some (pc + 1, cl, v :: c, h)) (kk : xcont P h0 r D M Q L) : rk_wp D M pc cl ck h Q := by
  unfold xia at hs
  split at hs
  · rename_i j l s
    split at hs
    · rename_i b hb
      cases hs
      obtain ⟨w, c, rfl, g2, g3⟩ := xsk_cons hA.2.1
      obtain ⟨y, rfl, g4⟩ := xM_int g2
      obtain ⟨w, c, rfl, g5, g6⟩ := xsk_cons g3
      obtain ⟨a, rfl, g7⟩ := xM_ref g5
      obtain ⟨vs, z, e1, e2, e3, e4⟩ := xaI_ok hA.2.2.1 hA.2.2.2.2.1 g4 hb g7
      obtain ⟨r', hp, hS', hE'⟩ := xrd_ok hA.2.2 g7 (k := y.toNatClampNeg) (by rw [rk_clamp e2]; exact g4) e3 e4
      exact x_one hix (hi y a c vs _ e1 e2 (rk_get_at e1 e3)) hp kk ⟨xlv_mono hp hA.1, ⟨hE', xsk_mono hp g6⟩, hS'⟩
    · cases hs
  · cases hs
theorem xaa_ok (hs : xaa pc lv st S = some L) (hA : xA P h0 r lv st S cl ck h) (hix : rk_find M.2.2.2.2.2 pc = some (.aaload, len)) (kk : xcont P h0 r D M Q L) : rk_wp D M pc cl ck h Q := by
  unfold xaa at hs
  split at hs
  · rename_i j l s
    split at hs
    · rename_i b hb
      cases hs
      obtain ⟨w, c, rfl, g2, g3⟩ := xsk_cons hA.2.1
      obtain ⟨y, rfl, g4⟩ := xM_int g2
      obtain ⟨w, c, rfl, g5, g6⟩ := xsk_cons g3
      obtain ⟨a, rfl, g7⟩ := xM_ref g5
      obtain ⟨kd, vs, z, e1, e0, e2, e3, e4⟩ := xaR_ok hA.2.2.1 hA.2.2.2.2.1 g4 hb g7
      exact wp_aa hix e1 e0 e2 e3 (kk _ List.mem_cons_self _ _ _ _ (x_refl r) ⟨hA.1, ⟨e4, g6⟩, hA.2.2⟩)
    · cases hs
  · cases hs
theorem xis_ok (hW : xWP P r W) {kd : Nat} {f : Int32 → Value} (hs : xis W kd pc lv st S = some L) (hA : xA P h0 r lv st S cl ck h) (hix : rk_find M.2.2.2.2.2 pc = some (i, len)) (hf : ∀ y : Int32, kd = 9 ∨ (y = 0 ∨ y = 1) → f y = .int y) (hi : ∀ (c : List Value), rk_stp M pc cl c h i = rk_ast pc cl c h kd f) (kk : xcont P h0 r D M Q L) : rk_wp D M pc cl ck h Q := by
  unfold xis at hs
  split at hs
  · rename_i t j l s
    cases e : (Nat.beq kd 9 || xin S t [(0, 1)]) && l.all (xwA W S kd j t) with
    | false => rw [e] at hs; cases hs
    | true =>
      rw [e] at hs
      cases hs
      rw [Bool.and_eq_true, Bool.or_eq_true, rk_beq] at e
      obtain ⟨w, c, rfl, g2, g3⟩ := xsk_cons hA.2.1
      obtain ⟨y, rfl, g4⟩ := xM_int g2
      obtain ⟨w, c, rfl, g5, g6⟩ := xsk_cons g3
      obtain ⟨x, rfl, g7⟩ := xM_int g5
      obtain ⟨w, c, rfl, g8, g9⟩ := xsk_cons g6
      obtain ⟨a, rfl, g10⟩ := xM_ref g8
      obtain ⟨f1, f2, vs, w0, f3, f4, f5, f6, f7⟩ := xwA_ok hA.2.2 hW (List.all_eq_true.mp e.2 a g10) g7 g4
      have ef : f y = .int y := hf y (e.1.elim Or.inl (fun z => Or.inr (x_bit (xin_ok hA.2.2.1 z g4))))
      have hj2 : ¬ x < 0 := by rw [Int32.lt_iff_toInt_lt]; show ¬ x.toInt < 0; omega
      refine x_one (h' := rk_pt h a x.toNatClampNeg (.int y)) hix ((hi _).trans ?_) (x_refl r) kk ⟨hA.1, g9, xwr_ok hA.2.2 g10 (by rw [rk_clamp f2]; exact g7) g4 f5 f6 f7⟩
      simp only [rk_ast, f3, Nat.blt_eq.mpr f1, Nat.blt_eq.mpr f4, decide_eq_false hj2, Bool.not_false, Bool.and_true, show Nat.beq kd kd = true from Nat.beq_refl kd, cond_true, rk_pt_eq f3, ef]
  · cases hs
theorem xas_ok (hW : xWP P r W) (hs : xas W pc lv st S = some L) (hA : xA P h0 r lv st S cl ck h) (hix : rk_find M.2.2.2.2.2 pc = some (.aastore, len)) (kk : xcont P h0 r D M Q L) : rk_wp D M pc cl ck h Q := by
  unfold xas at hs
  split at hs
  · rename_i v j l s
    cases e : l.all (xwR W S j v) with
    | false => rw [e] at hs; cases hs
    | true =>
      rw [e] at hs
      cases hs
      obtain ⟨w, c, rfl, g2, g3⟩ := xsk_cons hA.2.1
      obtain ⟨y, rfl, g4⟩ := xM_ref g2
      obtain ⟨w, c, rfl, g5, g6⟩ := xsk_cons g3
      obtain ⟨x, rfl, g7⟩ := xM_int g5
      obtain ⟨w, c, rfl, g8, g9⟩ := xsk_cons g6
      obtain ⟨a, rfl, g10⟩ := xM_ref g8
      obtain ⟨f1, f2, kd, vs, p, us, f3, f4, f5, f6, f7, f8⟩ := xwR_ok hA.2.2 hW (List.all_eq_true.mp e a g10) g4 g7
      exact wp_aas hix f3 f4 f5 f1 f2 f6 (kk _ List.mem_cons_self _ _ _ _ (x_refl r) ⟨hA.1, g9, ⟨⟨hA.2.2.1.1, hA.2.2.1.2.1, hA.2.2.1.2.2⟩, xkeep_ok hA.2.2 g10 (by rw [rk_clamp f2]; exact g7), f7, xfr_put hA.2.2.2.2.2 f8⟩⟩)
  · cases hs
theorem rk_ald_k {kd : Nat} {ok : Nat → Bool} {j : Int32} {a : Nat} {c vs : List Value} {v : Value} (hk : ok kd = true) (h1 : h[a]? = some (kd, vs)) (h2 : 0 ≤ j.toInt) (h3 : vs[j.toNatClampNeg]? = some v) : rk_ald pc cl (.int j :: .ref a :: c) h ok = some (pc + 1, cl, v :: c, h) := by
  have hj2 : ¬ j < 0 := by rw [Int32.lt_iff_toInt_lt]; show ¬ j.toInt < 0; omega
  simp only [rk_ald, h1, hk, decide_eq_false hj2, Bool.not_false, Bool.and_true, cond_true, h3, Option.map_some]
/-- THE STEP IS SOUND -/
theorem xstp_ok (hW : xWP P r W) (hs : xstp W M pc lv st S i = some L) (hA : xA P h0 r lv st S cl ck h) (hix : rk_find M.2.2.2.2.2 pc = some (i, len)) (kk : xcont P h0 r D M Q L) : rk_wp D M pc cl ck h Q := by
  have h1 := hA.2.2.1.2.1.1
  unfold xstp at hs
  split at hs
  · cases hs; exact x_one hix rfl (x_refl r) kk ⟨hA.1, ⟨xcst_ok h1 _, hA.2.1⟩, hA.2.2⟩
  · cases hs; exact x_one hix rfl (x_refl r) kk ⟨hA.1, ⟨xcst_ok h1 _, hA.2.1⟩, hA.2.2⟩
  · cases hs; exact x_one hix rfl (x_refl r) kk ⟨hA.1, ⟨xcst_ok h1 _, hA.2.1⟩, hA.2.2⟩
  · rename_i x
    cases e : rk_find (rk_cl M.2.2.2.2.1) x with
    | none => rw [e] at hs; cases hs
    | some v =>
      rw [e] at hs
      cases hs
      exact x_one (cl' := cl) (ck' := .int v :: ck) (h' := h) hix (by simp only [rk_stp, e, Option.map_some]) (x_refl r) kk ⟨hA.1, ⟨xcst_ok h1 _, hA.2.1⟩, hA.2.2⟩
  · rename_i x
    cases e : rk_find (rk_cl M.2.2.2.2.1) x with
    | none => rw [e] at hs; cases hs
    | some v =>
      rw [e] at hs
      cases hs
      exact x_one (cl' := cl) (ck' := .int v :: ck) (h' := h) hix (by simp only [rk_stp, e, Option.map_some]) (x_refl r) kk ⟨hA.1, ⟨xcst_ok h1 _, hA.2.1⟩, hA.2.2⟩
  · exact xild_ok hs hA hix (fun x e => by simp only [rk_stp, e, Option.map_some]) kk
  · exact xild_ok hs hA hix (fun x e => by simp only [rk_stp, e, Option.map_some]) kk
  · exact xald_ok hs hA hix (fun x e => by simp only [rk_stp, e, Option.map_some]) kk
  · exact xald_ok hs hA hix (fun x e => by simp only [rk_stp, e, Option.map_some]) kk
  · exact xist_ok hs hA hix rfl kk
  · exact xist_ok hs hA hix rfl kk
  · exact xast_ok hs hA hix rfl kk
  · exact xast_ok hs hA hix rfl kk
  · exact xinc_ok hs hA hix kk
  · exact xbin_ok hs hA hix rfl (fun a b x y => xiadd_ok hA.2.2) kk
  · exact xbin_ok hs hA hix rfl (fun a b x y => xisub_ok hA.2.2) kk
  · exact xbin_ok hs hA hix rfl (fun a b x y => ximul_ok hA.2.2) kk
  · exact xbin_ok hs hA hix rfl (fun a b x y => xiand_ok hA.2.2) kk
  · exact xbin_ok hs hA hix rfl (fun a b x y => xior_ok hA.2.2) kk
  · exact xbin_ok hs hA hix rfl (fun a b x y _ _ => xoth_ok hA.2.2) kk
  · exact xbin_ok hs hA hix rfl (fun a b x y => xishl_ok hA.2.2) kk
  · exact xbin_ok hs hA hix rfl (fun a b x y _ _ => xoth_ok hA.2.2) kk
  · exact xbin_ok hs hA hix rfl (fun a b x y _ _ => xoth_ok hA.2.2) kk
  · exact xdv_ok (g := fun x y => x / y) hs hA hix (fun x y c e => by simp only [rk_stp, decide_eq_false e, cond_false]) (fun a b o x y => xidiv_ok hA.2.2) kk
  · exact xdv_ok (g := fun x y => x - x / y * y) hs hA hix (fun x y c e => by simp only [rk_stp, decide_eq_false e, cond_false]) (fun a b o x y => xirem_ok hA.2.2) kk
  · split at hs
    · cases hs
      obtain ⟨w, c, rfl, g2, g3⟩ := xsk_cons hA.2.1
      exact x_one (cl' := cl) (ck' := w :: w :: c) (h' := h) hix (by simp only [rk_stp, xM_cat g2, Nat.beq, cond_true]) (x_refl r) kk ⟨hA.1, ⟨g2, g2, g3⟩, hA.2.2⟩
    · cases hs
  · split at hs
    · cases hs
      obtain ⟨w, c, rfl, g2, g3⟩ := xsk_cons hA.2.1
      obtain ⟨u, c, rfl, g4, g5⟩ := xsk_cons g3
      exact x_one (cl' := cl) (ck' := w :: u :: w :: u :: c) (h' := h) hix (by simp only [rk_stp, xM_cat g2, xM_cat g4, Nat.beq, Bool.and_true, cond_true]) (x_refl r) kk ⟨hA.1, ⟨g2, g4, g2, g4, g5⟩, hA.2.2⟩
    · cases hs
  · split at hs
    · cases hs
      obtain ⟨w, c, rfl, g2, g3⟩ := xsk_cons hA.2.1
      exact x_one (cl' := cl) (ck' := c) (h' := h) hix (by simp only [rk_stp, xM_cat g2, Nat.beq, cond_true]) (x_refl r) kk ⟨hA.1, g3, hA.2.2⟩
    · cases hs
  · split at hs
    · obtain ⟨w, c, rfl, g2, g3⟩ := xsk_cons hA.2.1
      obtain ⟨x, rfl, g4⟩ := xM_int g2
      exact xif_ok (x := x.toInt) (y := 0) hs hA.1 g3 hA.2.2 (by rw [Int.sub_zero]; exact g4) (fun tg htg a b => wp_if1 hix htg a b) kk
    · cases hs
  · split at hs
    · obtain ⟨w, c, rfl, g2, g3⟩ := xsk_cons hA.2.1
      obtain ⟨y, rfl, g4⟩ := xM_int g2
      obtain ⟨w, c, rfl, g5, g6⟩ := xsk_cons g3
      obtain ⟨x, rfl, g7⟩ := xM_int g5
      exact xif_ok (x := x.toInt) (y := y.toInt) hs hA.1 g6 hA.2.2 (xsub_ok g7 g4) (fun tg htg a b => wp_if2 hix htg a b) kk
    · cases hs
  · rename_i off
    cases e : rk_jmp pc off with
    | none => rw [e] at hs; cases hs
    | some tg =>
      rw [e] at hs
      cases hs
      exact x_one (cl' := cl) (ck' := ck) (h' := h) hix (by simp only [rk_stp, e, Option.map_some]) (x_refl r) kk hA
  · exact xsw_ok hs hA hix kk
  · exact xgf_ok hs hA hix kk
  · exact xpf_ok hW hs hA hix kk
  · exact xia_ok hs hA hix (fun j a c vs v e1 e2 e3 => (show rk_ald pc cl (.int j :: .ref a :: c) h (fun k => Nat.beq k 9 || Nat.beq k 14) = _ from rk_ald_k (ok := fun k => Nat.beq k 9 || Nat.beq k 14) rfl e1 e2 e3)) kk
  · exact xia_ok hs hA hix (fun j a c vs v e1 e2 e3 => (show rk_ald pc cl (.int j :: .ref a :: c) h (fun k => Nat.beq k 10) = _ from rk_ald_k (ok := fun k => Nat.beq k 10) rfl e1 e2 e3)) kk
  · exact xaa_ok hs hA hix kk
  · exact xis_ok (f := fun x => .int x) hW hs hA hix (fun y _ => rfl) (fun c => rfl) kk
  · exact xis_ok (f := fun x => narrow .boolean (.int x)) hW hs hA hix (fun y e => by rcases e with e | rfl | rfl; exact absurd e (by decide); rfl; rfl) (fun c => rfl) kk
  · exact xas_ok hW hs hA hix kk
  · cases hs
end RKZ
