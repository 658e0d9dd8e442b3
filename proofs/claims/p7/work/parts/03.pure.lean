/-! THE PURE MACHINE: frames, stacks and cells as lists; a reference is the number of a cell (0: the script). It stops (none) wherever the real one would throw. -/
abbrev rk_S : Type := List (Nat × List Value)
abbrev rk_L : Type := List (Nat × Value)
def rk_find {α : Type} : List (Nat × α) → Nat → Option α
  | [], _ => none
  | q :: r, n => bif Nat.beq q.1 n then some q.2 else rk_find r n
def rk_up (lv : rk_L) (i : Nat) (v : Value) : rk_L := (i, v) :: lv.filter (fun q => !(q.1 == i) && !(q.1 + 1 == i && q.2.category == 2))
def rk_jmp (pc : Nat) (off : Int) : Option Nat := match (pc : Int) + off with
  | .ofNat t => some t
  | .negSucc _ => none
def rk_cmp (o : Jvm.ClassFile.Cond) (x y : Int32) : Bool := match o with
  | .eq => decide (x = y)
  | .ne => decide (¬ x = y)
  | .lt => decide (x < y)
  | .ge => decide (y ≤ x)
  | .gt => decide (y < x)
  | .le => decide (x ≤ y)
def rk_li (lv : rk_L) (k : Nat) : Option Int32 := match rk_find lv k with
  | some (.int x) => some x
  | _ => none
def rk_lr (lv : rk_L) (k : Nat) : Option Nat := match rk_find lv k with
  | some (.ref x) => some x
  | _ => none
abbrev rk_T : Type := Nat × rk_L × List Value × rk_S
def rk_bin (pc : Nat) (lv : rk_L) (st : List Value) (h : rk_S) (f : Int32 → Int32 → Int32) : Option rk_T := match st with
  | .int y :: .int x :: r => some (pc + 1, lv, .int (f x y) :: r, h)
  | _ => none
def rk_sti (M : rk_M) (lv : rk_L) (st : List Value) (h : rk_S) (k pc' : Nat) : Option rk_T := match st with
  | .int x :: r => bif Nat.blt k M.2.2.1 then some (pc', rk_up lv k (.int x), r, h) else none
  | _ => none
def rk_sta (M : rk_M) (lv : rk_L) (st : List Value) (h : rk_S) (k pc' : Nat) : Option rk_T := match st with
  | .ref x :: r => bif Nat.blt k M.2.2.1 then some (pc', rk_up lv k (.ref x), r, h) else none
  | _ => none
def rk_fit (k : Nat) (v : Value) : Bool := match v with
  | .int x => Nat.beq k 0 || (Nat.beq k 1 && (decide (x = 0) || decide (x = 1)))
  | .ref _ => Nat.beq k 2
  | .null => Nat.beq k 2
  | _ => false
def rk_gf (M : rk_M) (pc : Nat) (lv : rk_L) (st : List Value) (h : rk_S) (x : Nat) : Option rk_T := match st with
  | .ref a :: r => match rk_find (rk_fl M.2.2.2.2.1) x, h[a]? with
    | some f, some q => bif Nat.beq q.1 f.1 then (q.2[f.2.1]?).map (fun v => (pc + 3, lv, v :: r, h)) else none
    | _, _ => none
  | _ => none
def rk_pf (M : rk_M) (pc : Nat) (lv : rk_L) (st : List Value) (h : rk_S) (x : Nat) : Option rk_T := match st with
  | v :: .ref a :: r => match rk_find (rk_fl M.2.2.2.2.1) x, h[a]? with
    | some f, some q => bif Nat.beq q.1 f.1 && (Nat.blt 0 a && (Nat.blt f.2.1 q.2.length && (rk_fit f.2.2.1 v && (!f.2.2.2.1 || (!f.2.2.2.2 && (Nat.beq M.2.2.2.2.1 f.1 && decide (M.1.name = "<init>"))))))) then some (pc + 3, lv, r, h.set a (q.1, q.2.set f.2.1 v)) else none
    | _, _ => none
  | _ => none
def rk_ald (pc : Nat) (lv : rk_L) (st : List Value) (h : rk_S) (ok : Nat → Bool) : Option rk_T := match st with
  | .int j :: .ref a :: r => match h[a]? with
    | some q => bif ok q.1 && !decide (j < 0) then (q.2[j.toNatClampNeg]?).map (fun v => (pc + 1, lv, v :: r, h)) else none
    | none => none
  | _ => none
def rk_ast (pc : Nat) (lv : rk_L) (st : List Value) (h : rk_S) (k : Nat) (f : Int32 → Value) : Option rk_T := match st with
  | .int x :: .int j :: .ref a :: r => match h[a]? with
    | some q => bif Nat.beq q.1 k && (Nat.blt 0 a && (!decide (j < 0) && Nat.blt j.toNatClampNeg q.2.length)) then some (pc + 1, lv, r, h.set a (q.1, q.2.set j.toNatClampNeg (f x))) else none
    | none => none
  | _ => none
def rk_aas (pc : Nat) (lv : rk_L) (st : List Value) (h : rk_S) : Option rk_T := match st with
  | .ref v :: .int j :: .ref a :: r => match h[a]?, h[v]? with
    | some q, some w => bif ((Nat.beq q.1 11 && Nat.beq w.1 0) || (Nat.beq q.1 12 && Nat.beq w.1 1)) && (Nat.blt 0 a && (!decide (j < 0) && Nat.blt j.toNatClampNeg q.2.length)) then some (pc + 1, lv, r, h.set a (q.1, q.2.set j.toNatClampNeg (.ref v))) else none
    | _, _ => none
  | _ => none
def rk_sw (pc : Nat) (lv : rk_L) (st : List Value) (h : rk_S) (d lo hi : Int) (offs : Array Int) : Option rk_T := match st with
  | .int x :: r => bif decide (x.toInt < lo ∨ hi < x.toInt) then (rk_jmp pc d).map (fun t => (t, lv, r, h)) else match offs[(x.toInt - lo).toNat]? with
    | some o => (rk_jmp pc o).map (fun t => (t, lv, r, h))
    | none => none
  | _ => none
def rk_new (M : rk_M) (pc : Nat) (lv : rk_L) (st : List Value) (h : rk_S) (x : Nat) : Option rk_T := match rk_find (rk_kl M.2.2.2.2.1) x with
  | some ci => bif Nat.blt ci 9 then some (pc + 3, lv, .ref h.length :: st, h ++ [(ci, rk_df ci)]) else none
  | none => none
def rk_nwa (pc : Nat) (lv : rk_L) (st : List Value) (h : rk_S) (k : Nat) : Option rk_T := match st with
  | .int n :: r => bif !decide (n < 0) && Nat.ble n.toNatClampNeg 100000 then some (pc + 2, lv, .ref h.length :: r, h ++ [(k, List.replicate n.toNatClampNeg (.int 0))]) else none
  | _ => none
def rk_anw (M : rk_M) (pc : Nat) (lv : rk_L) (st : List Value) (h : rk_S) (x : Nat) : Option rk_T := match st with
  | .int n :: r => match rk_find (rk_kl M.2.2.2.2.1) x with
    | some ci => bif Nat.blt ci 2 && (!decide (n < 0) && Nat.ble n.toNatClampNeg 100000) then some (pc + 3, lv, .ref h.length :: r, h ++ [(11 + ci, List.replicate n.toNatClampNeg .null)]) else none
    | none => none
  | _ => none
def rk_mnw (M : rk_M) (pc : Nat) (lv : rk_L) (st : List Value) (h : rk_S) (x dm : Nat) : Option rk_T := match st with
  | .int k :: .int n :: r => match rk_find (rk_kl M.2.2.2.2.1) x with
    | some ci => bif Nat.beq ci 13 && (Nat.beq dm 2 && (!decide (n < 0) && (!decide (k < 0) && (Nat.ble n.toNatClampNeg 1000 && Nat.ble k.toNatClampNeg 1000)))) then some (pc + 4, lv, .ref h.length :: r, h ++ ((13, (List.range n.toNatClampNeg).map (fun j => .ref (h.length + 1 + j))) :: List.replicate n.toNatClampNeg (9, List.replicate k.toNatClampNeg (.int 0)))) else none
    | none => none
  | _ => none
/-- one instruction that neither calls nor returns -/
def rk_stp (M : rk_M) (pc : Nat) (lv : rk_L) (st : List Value) (h : rk_S) (i : Instr) : Option rk_T := match i with
  | .iconst n => some (pc + 1, lv, .int (Int32.ofInt n) :: st, h)
  | .bipush n => some (pc + 2, lv, .int (Int8.ofInt n).toInt32 :: st, h)
  | .sipush n => some (pc + 3, lv, .int (Int16.ofInt n).toInt32 :: st, h)
  | .ldc x => (rk_find (rk_cl M.2.2.2.2.1) x).map (fun v => (pc + 2, lv, .int v :: st, h))
  | .ldc_w x => (rk_find (rk_cl M.2.2.2.2.1) x).map (fun v => (pc + 3, lv, .int v :: st, h))
  | .iload_n k => (rk_li lv k.val).map (fun x => (pc + 1, lv, .int x :: st, h))
  | .iload k => (rk_li lv k).map (fun x => (pc + 2, lv, .int x :: st, h))
  | .aload_n k => (rk_lr lv k.val).map (fun x => (pc + 1, lv, .ref x :: st, h))
  | .aload k => (rk_lr lv k).map (fun x => (pc + 2, lv, .ref x :: st, h))
  | .istore_n k => rk_sti M lv st h k.val (pc + 1)
  | .istore k => rk_sti M lv st h k (pc + 2)
  | .astore_n k => rk_sta M lv st h k.val (pc + 1)
  | .astore k => rk_sta M lv st h k (pc + 2)
  | .iinc k n => match rk_li lv k with
    | some x => bif Nat.blt k M.2.2.1 then some (pc + 3, rk_up lv k (.int (x + Int32.ofInt n)), st, h) else none
    | none => none
  | .iadd => rk_bin pc lv st h (fun x y => x + y)
  | .isub => rk_bin pc lv st h (fun x y => x - y)
  | .imul => rk_bin pc lv st h (fun x y => x * y)
  | .iand => rk_bin pc lv st h (fun x y => x &&& y)
  | .ior => rk_bin pc lv st h (fun x y => x ||| y)
  | .ixor => rk_bin pc lv st h (fun x y => x ^^^ y)
  | .ishl => rk_bin pc lv st h (fun x y => x <<< (y &&& 31))
  | .ishr => rk_bin pc lv st h (fun x y => x >>> (y &&& 31))
  | .iushr => rk_bin pc lv st h (fun x y => (x.toUInt32 >>> (y.toUInt32 &&& Int32.toUInt32 31)).toInt32)
  | .idiv => match st with
    | .int y :: .int x :: r => bif decide (y = 0) then none else some (pc + 1, lv, .int (x / y) :: r, h)
    | _ => none
  | .irem => match st with
    | .int y :: .int x :: r => bif decide (y = 0) then none else some (pc + 1, lv, .int (x - x / y * y) :: r, h)
    | _ => none
  | .dup => match st with
    | v :: r => bif Nat.beq v.category 1 then some (pc + 1, lv, v :: v :: r, h) else none
    | _ => none
  | .dup2 => match st with
    | v :: w :: r => bif Nat.beq v.category 1 && Nat.beq w.category 1 then some (pc + 1, lv, v :: w :: v :: w :: r, h) else none
    | _ => none
  | .pop => match st with
    | v :: r => bif Nat.beq v.category 1 then some (pc + 1, lv, r, h) else none
    | _ => none
  | .ifCond o off => match st with
    | .int x :: r => (rk_jmp pc off).map (fun t => (bif rk_cmp o x 0 then t else pc + 3, lv, r, h))
    | _ => none
  | .if_icmp o off => match st with
    | .int y :: .int x :: r => (rk_jmp pc off).map (fun t => (bif rk_cmp o x y then t else pc + 3, lv, r, h))
    | _ => none
  | .goto off => (rk_jmp pc off).map (fun t => (t, lv, st, h))
  | .tableswitch d lo hi offs => rk_sw pc lv st h d lo hi offs
  | .getfield x => rk_gf M pc lv st h x
  | .putfield x => rk_pf M pc lv st h x
  | .iaload => rk_ald pc lv st h (fun k => Nat.beq k 9 || Nat.beq k 14)
  | .baload => rk_ald pc lv st h (fun k => Nat.beq k 10)
  | .aaload => rk_ald pc lv st h (fun k => Nat.beq k 11 || (Nat.beq k 12 || Nat.beq k 13))
  | .iastore => rk_ast pc lv st h 9 (fun x => .int x)
  | .bastore => rk_ast pc lv st h 10 (fun x => narrow .boolean (.int x))
  | .aastore => rk_aas pc lv st h
  | .arraylength => match st with
    | .ref a :: r => match h[a]? with
      | some q => bif Nat.beq q.1 14 then some (pc + 1, lv, .int (Int32.ofNat q.2.length) :: r, h) else none
      | none => none
    | _ => none
  | .new x => rk_new M pc lv st h x
  | .newarray .int => rk_nwa pc lv st h 9
  | .newarray .boolean => rk_nwa pc lv st h 10
  | .anewarray x => rk_anw M pc lv st h x
  | .multianewarray x dm => rk_mnw M pc lv st h x dm
  | _ => none
/-- how long an instruction is -/
def rk_lk (i : Instr) (n : Nat) : Bool := match i with
  | .bipush _ | .iload _ | .aload _ | .istore _ | .astore _ | .ldc _ | .newarray _ => Nat.beq n 2
  | .sipush _ | .ldc_w _ | .iinc _ _ | .ifCond _ _ | .if_icmp _ _ | .goto _ | .getfield _ | .putfield _ | .new _ | .anewarray _ | .invokestatic _ | .invokevirtual _ | .invokespecial _ => Nat.beq n 3
  | .multianewarray _ _ => Nat.beq n 4
  | .tableswitch _ _ _ _ => true
  | _ => Nat.beq n 1
def rk_inv (M : rk_M) (i : Instr) : Option (Nat × Nat × Nat) := match i with
  | .invokestatic x => match rk_find (rk_ml M.2.2.2.2.1) x with
    | some q => bif Nat.beq q.2.2 0 || (Nat.beq q.2.2 4 || Nat.beq q.2.2 5) then some q else none
    | none => none
  | .invokevirtual x => match rk_find (rk_ml M.2.2.2.2.1) x with
    | some q => bif Nat.beq q.2.2 1 then some q else none
    | none => none
  | .invokespecial x => match rk_find (rk_ml M.2.2.2.2.1) x with
    | some q => bif Nat.beq q.2.2 2 || Nat.beq q.2.2 3 then some q else none
    | none => none
  | _ => none
def rk_gx (M : rk_M) (av r : List Value) : Option (List Value × List Value) :=
  bif Nat.ble (r.map fun v => v.category).sum 8 && (Nat.ble (lg_sl av).length M.2.2.1 && Nat.ble M.2.2.1 21) then some (av, r) else none
/-- what a call takes off the stack: its arguments, the rest -/
def rk_go (M : rk_M) (na kd : Nat) (st : List Value) (h : rk_S) : Option (List Value × List Value) :=
  bif Nat.ble na st.length then
    bif Nat.beq kd 0 || Nat.beq kd 4 then rk_gx M (st.take na).reverse (st.drop na)
    else match st.drop na with
      | .ref b :: r => match h[b]? with
        | some q => bif Nat.beq kd 2 || Nat.beq q.1 M.2.2.2.2.1 then rk_gx M (.ref b :: (st.take na).reverse) r else none
        | none => none
      | _ => none
  else none
def rk_ret (M : rk_M) (i : Instr) (st : List Value) : Option (Option Value) := match i with
  | .ireturn => match st with
    | [.int v] => match M.2.2.2.1 with
      | some .int => some (some (.int v))
      | some .boolean => bif decide (v = 0) || decide (v = 1) then some (some (.int v)) else none
      | _ => none
    | _ => none
  | .areturn => match st with
    | [.ref a] => match M.2.2.2.1 with
      | some (.object _) => some (some (.ref a))
      | _ => none
    | _ => none
  | .return_ => match st with
    | [] => match M.2.2.2.1 with
      | none => some none
      | _ => none
    | _ => none
  | _ => none
/-- runs: n turns at most, calls at most d within one another -/
def rk_ex : Nat → Nat → rk_M → Nat → rk_L → List Value → rk_S → Option (Option Value × rk_S)
  | 0, _, _, _, _, _, _ => none
  | n + 1, d, M, pc, lv, st, h =>
    match rk_find M.2.2.2.2.2 pc with
    | none => none
    | some ix =>
      match rk_stp M pc lv st h ix.1 with
      | some t => rk_ex n d M t.1 t.2.1 t.2.2.1 t.2.2.2
      | none =>
        match rk_inv M ix.1 with
        | some q =>
          match d with
          | 0 => none
          | d' + 1 =>
            bif Nat.beq q.2.2 3 then
              match st with
              | .ref _ :: r => bif Nat.ble (r.map fun v => v.category).sum 8 then rk_ex n (d' + 1) M (pc + 3) lv r h else none
              | _ => none
            else bif Nat.beq q.2.2 5 then
              match st with
              | .int y :: .int x :: r => bif Nat.ble (r.map fun v => v.category).sum 8 then rk_ex n (d' + 1) M (pc + 3) lv (.int (if x < y then y else x) :: r) h else none
              | _ => none
            else
              match rk_m q.1 with
              | none => none
              | some M' =>
                match rk_go M' q.2.1 q.2.2 st h with
                | none => none
                | some ar =>
                  match rk_ex n d' M' 0 (lv_args 0 ar.1) [] h with
                  | none => none
                  | some o => rk_ex n (d' + 1) M (pc + 3) lv (o.1.toList ++ ar.2) o.2
        | none =>
          match rk_ret M ix.1 st with
          | some v => some (v, h)
          | none => none
def rk_sz (h : rk_S) : Nat := (h.map fun q => q.2.length).sum
