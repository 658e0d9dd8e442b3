/-! new int[n][k], from the machine's own entry: a full outer row and then its rows, pushed one behind the other -/
def rn_rows (q : Cell) (S : State) : Nat → State
  | 0 => S
  | i + 1 => (rn_rows q S i).pushCell q
theorem rn_rows_at (q : Cell) (S : State) : ∀ i x : Nat, (rn_rows q S i).heap[x]? = if x < S.heap.size then S.heap[x]? else if x < S.heap.size + i then some q else none
  | 0, x => by
    show S.heap[x]? = _
    by_cases hx : x < S.heap.size
    · rw [if_pos hx]
    · rw [if_neg hx, if_neg (by omega)]
      exact Array.getElem?_eq_none (by omega)
  | i + 1, x => by
    have hs : (rn_rows q S i).heap.size = S.heap.size + i := by
      have a := rn_rows_at q S i (S.heap.size + i)
      rw [if_neg (by omega), if_neg (by omega)] at a
      have a1 := Array.getElem?_eq_none_iff.mp a
      cases i with
      | zero => rfl
      | succ j =>
        have b := rn_rows_at q S (j + 1) (S.heap.size + j)
        rw [if_neg (by omega), if_pos (by omega)] at b
        have b1 := (Array.getElem?_eq_some_iff.mp b).1
        omega
    show ((rn_rows q S i).heap.push q)[x]? = _
    rw [Array.getElem?_push, hs]
    by_cases hx : x = S.heap.size + i
    · rw [if_pos hx, if_neg (by omega), if_pos (by omega)]
    · rw [if_neg hx, rn_rows_at q S i x]
      by_cases h1 : x < S.heap.size
      · rw [if_pos h1, if_pos h1]
      · rw [if_neg h1, if_neg h1]
        by_cases h2 : x < S.heap.size + i
        · rw [if_pos h2, if_pos (by omega)]
        · rw [if_neg h2, if_neg (by omega)]
theorem rn_rows_size (q : Cell) (S : State) : ∀ i : Nat, (rn_rows q S i).heap.size = S.heap.size + i
  | 0 => rfl
  | i + 1 => by
    show ((rn_rows q S i).heap.push q).size = _
    rw [Array.size_push, rn_rows_size q S i]
    omega
theorem rn_rows_used (q : Cell) (S : State) : ∀ i : Nat, (rn_rows q S i).slotsUsed = S.slotsUsed + i * q.slots.size
  | 0 => by show S.slotsUsed = _; omega
  | i + 1 => by
    show (rn_rows q S i).slotsUsed + q.slots.size = _
    rw [rn_rows_used q S i, Nat.succ_mul]
    omega
theorem rn_rows_vm (q : Cell) (S : State) : ∀ i : Nat, (rn_rows q S i).vm = S.vm
  | 0 => rfl
  | i + 1 => rn_rows_vm q S i
theorem rn_rows_top (q : Cell) (S : State) (f : JFrame) : ∀ i : Nat, rn_rows q (S.setTop f) i = (rn_rows q S i).setTop f
  | 0 => rfl
  | i + 1 => by
    show (rn_rows q (S.setTop f) i).pushCell q = ((rn_rows q S i).pushCell q).setTop f
    rw [rn_rows_top q S f i, State.pushCell_setTop]
theorem rn_set_push {X : State} {a : Nat} {b q : Cell} (h : a < X.heap.size) : (X.pushCell q).setCell a b = (X.setCell a b).pushCell q := by
  have e : (X.heap.push q).setIfInBounds a b = (X.heap.setIfInBounds a b).push q := by
    apply Array.ext_getElem?
    intro i
    rw [Array.getElem?_setIfInBounds, Array.getElem?_push, Array.getElem?_push, Array.getElem?_setIfInBounds, Array.size_push, Array.size_setIfInBounds]
    by_cases h1 : a = i
    · subst h1
      rw [if_pos rfl, if_pos (by omega), if_neg (by omega), if_pos rfl, if_pos h]
    · rw [if_neg h1, if_neg h1]
  show ({ X with heap := (X.heap.push q).setIfInBounds a b, slotsUsed := X.slotsUsed + q.slots.size } : State) = { X with heap := (X.heap.setIfInBounds a b).push q, slotsUsed := X.slotsUsed + q.slots.size }
  rw [e]
theorem rn_rows_put (q : Cell) (S : State) {a b : Cell} (hz : a.slots.size = b.slots.size) : ∀ i : Nat, (rn_rows q (S.pushCell a) i).setCell S.heap.size b = rn_rows q (S.pushCell b) i
  | 0 => by
    have e : (S.heap.push a).setIfInBounds S.heap.size b = S.heap.push b := by
      apply Array.ext_getElem?
      intro i
      rw [Array.getElem?_setIfInBounds, Array.getElem?_push, Array.getElem?_push, Array.size_push]
      by_cases h1 : S.heap.size = i
      · subst h1
        rw [if_pos rfl, if_pos (by omega), if_pos rfl]
      · rw [if_neg h1, if_neg (fun h => h1 h.symm), if_neg (fun h => h1 h.symm)]
    show ({ S with heap := (S.heap.push a).setIfInBounds S.heap.size b, slotsUsed := S.slotsUsed + a.slots.size } : State) = { S with heap := S.heap.push b, slotsUsed := S.slotsUsed + b.slots.size }
    rw [e, hz]
  | i + 1 => by
    show ((rn_rows q (S.pushCell a) i).pushCell q).setCell S.heap.size b = (rn_rows q (S.pushCell b) i).pushCell q
    rw [rn_set_push (by rw [rn_rows_size]; show S.heap.size < (S.heap.push a).size + i; rw [Array.size_push]; omega), rn_rows_put q S hz i]
/-- the outer row of N, its first i places set -/
def rn_out (c : ClassId) (N x i : Nat) : Cell := { cls := c, slots := ((List.range N).map (fun j => if j < i then Value.ref (x + 1 + j) else .null)).toArray, vm := .none }
theorem rn_out_size (c : ClassId) (N x i : Nat) : (rn_out c N x i).slots.size = N := by simp [rn_out]
theorem rn_out_none (c : ClassId) (N x : Nat) : rn_out c N x 0 = { cls := c, slots := Array.replicate N .null, vm := .none } := by
  have e : ((List.range N).map (fun j => if j < 0 then Value.ref (x + 1 + j) else .null)).toArray = Array.replicate N Value.null := by
    apply Array.ext_getElem?
    intro j
    by_cases hj : j < N <;> simp [hj]
  unfold rn_out
  rw [e]
theorem rn_out_put {c : ClassId} {N x i : Nat} : (rn_out c N x i).setSlot i (.ref (x + 1 + i)) = rn_out c N x (i + 1) := by
  have e : ((List.range N).map (fun j => if j < i then Value.ref (x + 1 + j) else .null)).toArray.setIfInBounds i (.ref (x + 1 + i)) = ((List.range N).map (fun j => if j < i + 1 then Value.ref (x + 1 + j) else .null)).toArray := by
    apply Array.ext_getElem?
    intro j
    rw [Array.getElem?_setIfInBounds]
    by_cases h1 : i = j
    · subst h1
      by_cases hj : i < N <;> simp [hj]
    · rw [if_neg h1]
      by_cases hj : j < N
      · by_cases h2 : j < i
        · simp [hj, h2, show j < i + 1 by omega]
        · simp [hj, h2, show ¬ j < i + 1 by omega]
      · simp [hj]
  show ({ cls := c, slots := (((List.range N).map (fun j => if j < i then Value.ref (x + 1 + j) else .null)).toArray).setIfInBounds i (.ref (x + 1 + i)), vm := .none } : Cell) = _
  rw [e]
  rfl
section RNM
variable {E : CtlPost} {e : Env} {d : Bool} {acts : List Action} {S : State}
/-- one row -/
theorem rn_make1 {c comp : ClassId} {kc : Class} {k : Int32} (hkc : S.vm.classes[c]? = some kc) (hkind : kc.kind = .array comp .int) (hk : ¬ k < 0) (hlim : ¬ k.toNatClampNeg > e.platform.arrayLengthLimit) (hheap : ¬ k.toNatClampNeg * componentBytes .int > e.platform.maxHeapBytes)
    (h1 : S.heap.size < e.platform.maxCells) (h2 : S.slotsUsed + k.toNatClampNeg ≤ e.platform.maxSlots) {Q : Addr → Pre} (hq : ∀ acts', Q S.heap.size d acts' (S.pushCell { cls := c, slots := Array.replicate k.toNatClampNeg (.int 0), vm := .none })) : Sem.wp (Jvm.Op.multianewarray.make c [k]) Q E e d acts S := by
  rw [Jvm.Op.multianewarray.make]
  simp only [wp_bind', _root_.Jvm.W.ite, if_neg hk, wp_pure', _root_.Jvm.W.theClass]
  refine ⟨kc, hkc, ?_⟩
  rw [hkind]
  exact _root_.Jvm.W.newArray_of hkc hkind hlim hheap h1 h2 rfl hq
/-- the rows, one by one: behind i of them the outer row has its first i places set -/
theorem rn_loop {cA c comp : ClassId} {kA kc : Class} {N : Nat} {k : Int32} (hkA : S.vm.classes[cA]? = some kA) (hkindA : kA.kind = .array c (.array .int)) (hkc : S.vm.classes[c]? = some kc) (hkind : kc.kind = .array comp .int) (hk : ¬ k < 0)
    (hlim : ¬ k.toNatClampNeg > e.platform.arrayLengthLimit) (hheap : ¬ k.toNatClampNeg * componentBytes .int > e.platform.maxHeapBytes)
    (h1 : S.heap.size + (1 + N) ≤ e.platform.maxCells) (h2 : S.slotsUsed + (N + N * k.toNatClampNeg) ≤ e.platform.maxSlots) {Q : PUnit → Pre}
    (hq : ∀ d' acts', Q PUnit.unit d' acts' (rn_rows { cls := c, slots := Array.replicate k.toNatClampNeg (.int 0), vm := .none } (S.pushCell (rn_out cA N S.heap.size N)) N)) :
    Sem.wp (forIn (List.range' 0 N 1) PUnit.unit (fun i _ => (do let a ← Jvm.Op.multianewarray.make c [k]; Jvm.writeLoc S.heap.size i (Value.ref a); Pure.pure (ForInStep.yield PUnit.unit) : Sem (ForInStep PUnit)))) Q E e d acts (S.pushCell (rn_out cA N S.heap.size 0)) := by
  refine wp_forIn_inv (fun rest U => ∃ i : Nat, i ≤ N ∧ rest = List.range' i (N - i) 1 ∧ U = rn_rows { cls := c, slots := Array.replicate k.toNatClampNeg (.int 0), vm := .none } (S.pushCell (rn_out cA N S.heap.size i)) i) _ _ ⟨0, by omega, rfl, rfl⟩ (fun x rest U d' acts' Q' hI hy => ?_) (fun U d' acts' hI => ?_)
  · obtain ⟨i, hi, he, rfl⟩ := hI
    have hlt : i < N := by
      rcases Nat.lt_or_ge i N with h | h
      · exact h
      · rw [show N - i = 0 by omega] at he
        cases he
    rw [show N - i = (N - (i + 1)) + 1 by omega, List.range'_succ] at he
    obtain ⟨rfl, rfl⟩ := List.cons.inj he
    have hz : (rn_rows { cls := c, slots := Array.replicate k.toNatClampNeg (.int 0), vm := .none } (S.pushCell (rn_out cA N S.heap.size x)) x).heap.size = S.heap.size + 1 + x := by
      rw [rn_rows_size]
      show (S.heap.push _).size + x = _
      rw [Array.size_push]
    have hu : (rn_rows { cls := c, slots := Array.replicate k.toNatClampNeg (.int 0), vm := .none } (S.pushCell (rn_out cA N S.heap.size x)) x).slotsUsed = S.slotsUsed + N + x * k.toNatClampNeg := by
      rw [rn_rows_used]
      show S.slotsUsed + (rn_out cA N S.heap.size x).slots.size + x * (Array.replicate k.toNatClampNeg (Value.int 0)).size = _
      rw [rn_out_size, Array.size_replicate]
    have hv : (rn_rows { cls := c, slots := Array.replicate k.toNatClampNeg (.int 0), vm := .none } (S.pushCell (rn_out cA N S.heap.size x)) x).vm = S.vm := rn_rows_vm _ _ _
    have hm : (x + 1) * k.toNatClampNeg ≤ N * k.toNatClampNeg := Nat.mul_le_mul_right _ hlt
    rw [Nat.succ_mul] at hm
    rw [wp_bind']
    refine rn_make1 (by rw [hv]; exact hkc) hkind hk hlim hheap (by rw [hz]; omega) (by rw [hu]; omega) (fun acts2 => ?_)
    rw [hz]
    simp only [wp_bind', _root_.Jvm.W.writeLoc, wp_pure']
    refine ⟨rn_out cA N S.heap.size x, ?_, (by intro h; cases h), (by rw [rn_out_size]; exact hlt), ?_, ?_⟩
    · show (rn_rows { cls := c, slots := Array.replicate k.toNatClampNeg (.int 0), vm := .none } (S.pushCell (rn_out cA N S.heap.size x)) (x + 1)).heap[S.heap.size]? = _
      rw [rn_rows_at]
      show (if S.heap.size < (S.heap.push (rn_out cA N S.heap.size x)).size then (S.heap.push (rn_out cA N S.heap.size x))[S.heap.size]? else _) = _
      rw [if_pos (by rw [Array.size_push]; omega), Array.getElem?_push, if_pos rfl]
    · have hkA' : (rn_rows { cls := c, slots := Array.replicate k.toNatClampNeg (.int 0), vm := .none } (S.pushCell (rn_out cA N S.heap.size x)) (x + 1)).vm.classes[cA]? = some kA := by
        rw [rn_rows_vm]
        exact hkA
      show State.fitsSlot (rn_rows { cls := c, slots := Array.replicate k.toNatClampNeg (.int 0), vm := .none } (S.pushCell (rn_out cA N S.heap.size x)) (x + 1)) cA .none x (.ref (S.heap.size + 1 + x)) = true
      simp [State.fitsSlot, State.slotType?, hkA', hkindA, fits]
    · refine hy _ _ _ ⟨x + 1, hlt, rfl, ?_⟩
      rw [rn_out_put]
      exact rn_rows_put _ S (by rw [rn_out_size, rn_out_size]) (x + 1)
  · obtain ⟨i, hi, he, rfl⟩ := hI
    have hlt : i = N := by
      have := congrArg List.length he
      rw [List.length_range'] at this
      simp at this
      omega
    subst hlt
    exact hq _ _
/-- all rows -/
theorem rn_make2 {cA c comp : ClassId} {kA kc : Class} {n k : Int32} (hkA : S.vm.classes[cA]? = some kA) (hkindA : kA.kind = .array c (.array .int)) (hkc : S.vm.classes[c]? = some kc) (hkind : kc.kind = .array comp .int) (hn : ¬ n < 0) (hk : ¬ k < 0)
    (hlim1 : ¬ n.toNatClampNeg > e.platform.arrayLengthLimit) (hheap1 : ¬ n.toNatClampNeg * componentBytes (.array .int) > e.platform.maxHeapBytes) (hlim : ¬ k.toNatClampNeg > e.platform.arrayLengthLimit) (hheap : ¬ k.toNatClampNeg * componentBytes .int > e.platform.maxHeapBytes)
    (h1 : S.heap.size + (1 + n.toNatClampNeg) ≤ e.platform.maxCells) (h2 : S.slotsUsed + (n.toNatClampNeg + n.toNatClampNeg * k.toNatClampNeg) ≤ e.platform.maxSlots) {Q : Addr → Pre}
    (hq : ∀ d' acts', Q S.heap.size d' acts' (rn_rows { cls := c, slots := Array.replicate k.toNatClampNeg (.int 0), vm := .none } (S.pushCell (rn_out cA n.toNatClampNeg S.heap.size n.toNatClampNeg)) n.toNatClampNeg)) : Sem.wp (Jvm.Op.multianewarray.make cA [n, k]) Q E e d acts S := by
  rw [Jvm.Op.multianewarray.make]
  simp only [wp_bind', _root_.Jvm.W.ite, if_neg hn, wp_pure', _root_.Jvm.W.theClass]
  refine ⟨kA, hkA, ?_⟩
  rw [hkindA]
  simp only [wp_bind', _root_.Jvm.W.ite, wp_pure']
  refine _root_.Jvm.W.newArray_of hkA hkindA hlim1 hheap1 (by omega) (by omega) rfl (fun acts1 => ?_)
  rw [← rn_out_none cA n.toNatClampNeg S.heap.size]
  have hl : ∀ (d : Bool) (acts : List Action), Sem.wp (forIn [:n.toNatClampNeg] PUnit.unit (fun i _ => (do let a ← Jvm.Op.multianewarray.make c [k]; Jvm.writeLoc S.heap.size i (Value.ref a); Pure.pure (ForInStep.yield PUnit.unit) : Sem (ForInStep PUnit)))) (fun _ d' acts' U => Q S.heap.size d' acts' U) E e d acts (S.pushCell (rn_out cA n.toNatClampNeg S.heap.size 0)) := fun d acts => by
    rw [Std.Legacy.Range.forIn_eq_forIn_range', show List.range' [:n.toNatClampNeg].start [:n.toNatClampNeg].size [:n.toNatClampNeg].step = List.range' 0 n.toNatClampNeg 1 by simp [Std.Legacy.Range.size]]
    exact rn_loop (N := n.toNatClampNeg) (Q := fun _ d' acts' U => Q S.heap.size d' acts' U) hkA hkindA hkc hkind hk hlim hheap h1 h2 (fun d' acts' => hq d' acts')
  have hb : List.find? (fun x : Int32 => decide (x < 0)) [k] = none := by simp [hk]
  by_cases h0 : (n == 0) = true
  · rw [if_pos h0, hb]
    simp only [wp_bind', wp_pure']
    exact hl _ _
  · rw [if_neg h0]
    simp only [wp_bind', wp_pure']
    exact hl _ _
end RNM
section RNS
variable {p : Program} {l : Launch} {e : Env} {R : Room} {s : State} {m : MethodId} {args : Array Value} {below : List Frame} {meth : Method} {c : Code} {T : State} {locs : List Loc} {cells slots : Nat}
theorem rn_stand (X : Stand p l e R s m args below meth c T locs cells slots) (q : Cell) : ∀ i : Nat, Stand p l e R s m args below meth c (rn_rows q T i) locs (cells + i) (slots + i * q.slots.size)
  | 0 => by
    rw [Nat.zero_mul]
    exact X
  | i + 1 => by
    have h := (rn_stand X q i).pushed q
    rw [show cells + (i + 1) = cells + i + 1 by omega, show slots + (i + 1) * q.slots.size = slots + i * q.slots.size + q.slots.size by rw [Nat.succ_mul]; omega]
    exact h
set_option maxHeartbeats 1000000 in
/-- new int[n][k] in Stand's shape -/
theorem rn_mna (X : Stand p l e R s m args below meth c T locs cells slots) (hexec : p.tables.exec = Jvm.exec) {own : String} {index : Nat} (hown : s.vm.findClass own = some m.cls) (hclink : (Cond.classLink own index "[[I").before args s = true) (hover : (Cond.arrayOver (.array .int)).before #[] s = true) (harr : (Cond.arrayClass .int).before args s = true)
    {g : JFrame} (hg : g.method = m) (hdg : decode c.code g.pc = .ok (.multianewarray index 2, 4)) {n k : Int32} {rest : List Value} (hstack : g.stack = .int k :: .int n :: rest) (hn : ¬ n < 0) (hk : ¬ k < 0) (hN : n.toNatClampNeg ≤ 1000) (hM : k.toNatClampNeg ≤ 1000)
    (hcells : cells + (1 + n.toNatClampNeg) ≤ R.cells) (hslots : slots + (n.toNatClampNeg + n.toNatClampNeg * k.toNatClampNeg) ≤ R.slots) :
    ∃ (F : State) (cA cI : ClassId), s.vm.findClass ("[" ++ (FieldType.array .int).toString) = some cA ∧ s.vm.findClass ("[" ++ FieldType.int.toString) = some cI ∧
      F.heap.size = T.heap.size + (1 + n.toNatClampNeg) ∧ (∀ x : Nat, x < T.heap.size → F.heap[x]? = T.heap[x]?) ∧ F.heap[T.heap.size]? = some { cls := cA, slots := ((List.range n.toNatClampNeg).map (fun j => Value.ref (T.heap.size + 1 + j))).toArray, vm := .none } ∧
      (∀ j : Nat, j < n.toNatClampNeg → F.heap[T.heap.size + 1 + j]? = some { cls := cI, slots := Array.replicate k.toNatClampNeg (.int 0), vm := .none }) ∧
      Stand p l e R s m args below meth c F locs (cells + (1 + n.toNatClampNeg)) (slots + (n.toNatClampNeg + n.toNatClampNeg * k.toNatClampNeg)) ∧
      ∀ target, Steps p.tables e below (F.setTop { g with pc := g.pc + 4, stack := .ref T.heap.size :: rest }) target → Steps p.tables e below (T.setTop g) target := by
  subst hg
  have hpl : e.platform.magicAccessors = ({} : Platform).magicAccessors := by rw [X.admits.platform]
  obtain ⟨cI, cA, kA, hcI, -, hkA, hkindA, hnameA⟩ := arrayOverA_spec hover
  obtain ⟨cJ, kI, comp, hcJ, hkI, hkindI⟩ := Cond.arrayClass_spec harr
  have hJ : some cI = some cJ := hcI.symm.trans hcJ
  cases hJ
  obtain ⟨cL, hfL, hcl⟩ := Cond.classLink_spec hown hclink e.platform hpl
  have hL : some cA = some cL := hnameA.symm.trans hfL
  cases hL
  obtain ⟨hg₁, hwarm₁, -⟩ := State.classEntry (e := e) X.warmed hcl
  have hsz : (T.vm.noted g.method.cls index (.cls cA)).classes.size ≤ T.vm.classes.size := by no_record
  generalize T.vm.noted g.method.cls index (.cls cA) = vm₁ at hg₁ hwarm₁ hsz
  have hal : s.vm.Alike vm₁ := hwarm₁.alike
  obtain ⟨kA₁, hkA₁, heA⟩ := hal.2.2 _ _ hkA
  have hkindA₁ : kA₁.kind = .array cI (.array .int) := by rw [heA]; exact hkindA
  obtain ⟨kI₁, hkI₁, heI⟩ := hal.2.2 _ _ hkI
  have hkindI₁ : kI₁.kind = .array comp .int := by rw [heI]; exact hkindI
  have hl1 : e.platform.arrayLengthLimit ≥ 1000 := by rw [Launch.admits_arrayLengthLimit X.admits]; omega
  have hl2 : e.platform.maxHeapBytes ≥ 4000 := by rw [Launch.admits_maxHeapBytes X.admits]; omega
  obtain ⟨hr1, hr2⟩ := X.roomAbove hcells hslots
  have X₁ := X.noted hwarm₁
  have X₂ := rn_stand (X₁.pushed (rn_out cA n.toNatClampNeg T.heap.size n.toNatClampNeg)) { cls := cI, slots := Array.replicate k.toNatClampNeg (.int 0), vm := .none } n.toNatClampNeg
  rw [rn_out_size] at X₂
  have X₃ : Stand p l e R s g.method args below meth c (rn_rows { cls := cI, slots := Array.replicate k.toNatClampNeg (.int 0), vm := .none } ((T.setVm vm₁).pushCell (rn_out cA n.toNatClampNeg T.heap.size n.toNatClampNeg)) n.toNatClampNeg) locs (cells + (1 + n.toNatClampNeg)) (slots + (n.toNatClampNeg + n.toNatClampNeg * k.toNatClampNeg)) := by
    have e1 : cells + 1 + n.toNatClampNeg = cells + (1 + n.toNatClampNeg) := by omega
    have e2 : slots + n.toNatClampNeg + n.toNatClampNeg * (Array.replicate k.toNatClampNeg (Value.int 0)).size = slots + (n.toNatClampNeg + n.toNatClampNeg * k.toNatClampNeg) := by rw [Array.size_replicate]; omega
    rw [← e1, ← e2]
    exact X₂
  have hp0 : ((T.setVm vm₁).pushCell (rn_out cA n.toNatClampNeg T.heap.size n.toNatClampNeg)).heap.size = T.heap.size + 1 := by
    show (T.heap.push _).size = _
    rw [Array.size_push]
  refine ⟨_, cA, cI, hnameA, hcJ, ?_, ?_, ?_, ?_, X₃, fun target ht => ?_⟩
  · rw [rn_rows_size, hp0]
    omega
  · intro x hx
    rw [rn_rows_at, if_pos (by rw [hp0]; omega)]
    show (T.heap.push _)[x]? = _
    rw [Array.getElem?_push, if_neg (by omega)]
  · rw [rn_rows_at, if_pos (by rw [hp0]; omega)]
    show (T.heap.push _)[T.heap.size]? = _
    rw [Array.getElem?_push, if_pos rfl]
    unfold rn_out
    rw [List.map_congr_left (g := fun j => Value.ref (T.heap.size + 1 + j)) (fun j hj => if_pos (List.mem_range.mp hj))]
  · intro j hj
    rw [rn_rows_at, hp0, if_neg (by omega), if_pos (by omega)]
  · refine Steps.instr (c := c) (by simpa using X.here) ?_
    rw [hdg]
    dsimp only
    rw [hexec]
    show Sem.wp (Jvm.Op.multianewarray.sem index 2) _ _ e false [] (T.setTop g)
    unfold Jvm.Op.multianewarray.sem
    rw [wp_bind', _root_.Jvm.W.resolveClassAt_links (State.method?_setTop g X.here.top) hg₁ hsz]
    show Sem.wp _ _ _ e false [] ((T.setVm vm₁).setTop g)
    have htop : (T.setVm vm₁).topJava?.isSome := X₁.here.top
    rw [wp_bind', _root_.Jvm.W.popN, if_neg (by omega)]
    refine ⟨g, State.topJava?_setTop' g htop, [.int n, .int k], rest, rfl, hstack, ?_⟩
    rw [State.setTop_setTop]
    simp only [List.mapM_cons, List.mapM_nil, wp_bind', wp_pure']
    refine rn_make2 (S := (T.setVm vm₁).setTop { g with stack := rest }) hkA₁ hkindA₁ hkI₁ hkindI₁ hn hk (by omega) (by show ¬ n.toNatClampNeg * 4 > _; omega) (by omega) (by show ¬ k.toNatClampNeg * 4 > _; omega) hr1 hr2 (fun d' acts' => ?_)
    rw [State.pushCell_setTop, rn_rows_top]
    simp only [wp_bind', _root_.Jvm.W.mark, _root_.Jvm.W.pushRef]
    refine ⟨_, State.topJava?_setTop' _ X₃.here.top, fun acts => ?_⟩
    rw [State.setTop_setTop, afterInstr_ok]
    exact ht
end RNS
