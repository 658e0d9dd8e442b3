section RKH
variable {d d' : Nat} {M M' : rk_M} {pc : Nat} {lv : rk_L} {st : List Value} {h : rk_S} {o o' : Option Value × rk_S}
theorem ev_go {pc' : Nat} {lv' : rk_L} {st' : List Value} {h' : rk_S} (k : Nat) (hs : rk_sim k M (pc, lv, st, h) = some (pc', lv', st', h')) (he : rk_ev d M pc' lv' st' h' o) : rk_ev d M pc lv st h o := ev_sim (t := (pc, lv, st, h)) k hs he
theorem ev_if1 {x : Int32} {r : List Value} {c : Jvm.ClassFile.Cond} {off : Int} {len tg : Nat} (hix : rk_find M.2.2.2.2.2 pc = some (.ifCond c off, len)) (hj : rk_jmp pc off = some tg) (b : Bool) (hb : rk_cmp c x 0 = b) (he : rk_ev d M (bif b then tg else pc + 3) lv r h o) : rk_ev d M pc lv (.int x :: r) h o := by
  subst hb
  exact ev_stp (t := (bif rk_cmp c x 0 then tg else pc + 3, lv, r, h)) hix (by simp only [rk_stp, hj, Option.map_some]) he
theorem ev_if2 {x y : Int32} {r : List Value} {c : Jvm.ClassFile.Cond} {off : Int} {len tg : Nat} (hix : rk_find M.2.2.2.2.2 pc = some (.if_icmp c off, len)) (hj : rk_jmp pc off = some tg) (b : Bool) (hb : rk_cmp c x y = b) (he : rk_ev d M (bif b then tg else pc + 3) lv r h o) : rk_ev d M pc lv (.int y :: .int x :: r) h o := by
  subst hb
  exact ev_stp (t := (bif rk_cmp c x y then tg else pc + 3, lv, r, h)) hix (by simp only [rk_stp, hj, Option.map_some]) he
theorem ev_swo {x : Int32} {r : List Value} {dd lo hi : Int} {offs : Array Int} {len tg : Nat} (hix : rk_find M.2.2.2.2.2 pc = some (.tableswitch dd lo hi offs, len)) (hx : x.toInt < lo ∨ hi < x.toInt) (hj : rk_jmp pc dd = some tg) (he : rk_ev d M tg lv r h o) : rk_ev d M pc lv (.int x :: r) h o :=
  ev_stp (t := (tg, lv, r, h)) hix (by simp only [rk_stp, rk_sw, decide_eq_true hx, cond_true, hj, Option.map_some]) he
theorem ev_swi {x : Int32} {r : List Value} {dd lo hi off : Int} {offs : Array Int} {len tg : Nat} (hix : rk_find M.2.2.2.2.2 pc = some (.tableswitch dd lo hi offs, len)) (hx : ¬ (x.toInt < lo ∨ hi < x.toInt)) (ho : offs[(x.toInt - lo).toNat]? = some off) (hj : rk_jmp pc off = some tg) (he : rk_ev d M tg lv r h o) : rk_ev d M pc lv (.int x :: r) h o :=
  ev_stp (t := (tg, lv, r, h)) hix (by simp only [rk_stp, rk_sw, decide_eq_false hx, cond_false, ho, hj, Option.map_some]) he
theorem ev_mx {x y z : Int32} {r : List Value} {ix : Instr × Nat} {q : Nat × Nat × Nat} (hix : rk_find M.2.2.2.2.2 pc = some ix) (hq : rk_inv M ix.1 = some q) (hk : q.2.2 = 5) (h8 : (r.map fun v => v.category).sum ≤ 8) (hz : (if x < y then y else x) = z) (he : rk_ev (d' + 1) M (pc + 3) lv (.int z :: r) h o) : rk_ev (d' + 1) M pc lv (.int y :: .int x :: r) h o := by
  subst hz
  exact ev_max hix hq hk h8 he
end RKH
/-- on a new object of the class and of the reference a call answers alike -/
def rk_ok2 (MX MM : rk_M) (as : List Value) : Prop := ∃ (r : Int32) (h1 h2 : rk_S), rk_ev 1999 MX 0 (lv_args 0 (.ref 1 :: as)) [] rk_HM (some (.int r), h1) ∧ rk_ev 1999 MM 0 (lv_args 0 (.ref 316 :: as)) [] h1 (some (.int r), h2)
def rk_chk (MX MM : rk_M) (as : List Value) : Bool := match rk_ex 5000 1999 MX 0 (lv_args 0 (.ref 1 :: as)) [] rk_HM with
  | some (some (.int r), h1) => match rk_ex 5000 1999 MM 0 (lv_args 0 (.ref 316 :: as)) [] h1 with
    | some (some (.int r2), _) => decide (r = r2)
    | _ => false
  | _ => false
theorem rk_chk_ok {MX MM : rk_M} {as : List Value} (h : rk_chk MX MM as = true) : rk_ok2 MX MM as := by
  unfold rk_chk at h
  split at h
  · rename_i r h1 e1
    split at h
    · rename_i r2 h2 e2
      have e := of_decide_eq_true h
      subst e
      exact ⟨r, h1, h2, ⟨_, e1⟩, ⟨_, e2⟩⟩
    · cases h
  · cases h
