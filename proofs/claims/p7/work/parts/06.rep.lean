/-! WHAT A PURE STATE STANDS FOR. E: the classes' numbers, the array classes' numbers, the script's cell, its address b, the first address z of what is made. -/
abbrev rk_E : Type := va_G × (Nat → ClassId) × Cell × Nat × Nat
def rk_ad (E : rk_E) : Nat → Nat
  | 0 => E.2.2.2.1
  | i + 1 => E.2.2.2.2 + i
def rk_v (E : rk_E) : Value → Value
  | .ref a => .ref (rk_ad E a)
  | .int x => .int x
  | .null => .null
  | .long x => .long x
  | .float x => .float x
  | .double x => .double x
  | .retAddr x => .retAddr x
def rk_vp (E : rk_E) (q : Nat × Value) : Nat × Value := (q.1, rk_v E q.2)
theorem rk_v_cat (E : rk_E) (v : Value) : (rk_v E v).category = v.category := by cases v <;> rfl
def rk_ty : Nat → FieldType
  | 9 => .int
  | 10 => .boolean
  | 11 => .object RX0
  | 12 => .object RX1
  | _ => .array .int
def rk_at (E : rk_E) (a : Nat) (q : Nat × List Value) (H : Heap) : Prop :=
  (q.1 < 9 ∧ ∃ r : vw_C, vwCl[q.1]? = some r ∧ q.2.length = r.2.2 ∧ t_OB a (E.1.1 q.1) r.2.2 (E.1.2 q.1) H (vp_V (q.2.map (rk_v E)))) ∨
  (q.1 = 14 ∧ H[a]? = some E.2.2.1 ∧ E.2.2.1.slots = (q.2.map (rk_v E)).toArray) ∨
  ((9 ≤ q.1 ∧ q.1 < 14) ∧ H[a]? = some ({ cls := E.2.1 q.1, slots := (q.2.map (rk_v E)).toArray, vm := .none } : Cell))
def rk_P (E : rk_E) (h : rk_S) (H : Heap) : Prop := E.2.2.2.1 < E.2.2.2.2 ∧ 1 ≤ h.length ∧ H.size + 1 = E.2.2.2.2 + h.length ∧ ∀ (i : Nat) (q : Nat × List Value), h[i]? = some q → rk_at E (rk_ad E i) q H
def rk_KA (E : rk_E) (U : State) (k : Nat) : Prop := ∃ (kA : Class) (comp : ClassId), U.vm.classes[E.2.1 k]? = some kA ∧ kA.kind = .array comp (rk_ty k) ∧ U.vm.findClass ("[" ++ (rk_ty k).toString) = some (E.2.1 k) ∧ ∀ C, rk_ty k = .object C → U.vm.findClass C = some comp
def rk_isN : Jvm.Cond → Bool
  | .fieldLinkNest .. => true
  | .methodLinkNest .. => true
  | _ => false
def rk_AOA (U : State) : Prop := (Cond.arrayOver (.array .int)).before #[] U = true
def rk_K (E : rk_E) (U : State) : Prop := va_K E.1 vwCl [] U ∧ (∀ k, 9 ≤ k → k < 14 → rk_KA E U k) ∧ (U.isArrayOf E.2.2.1 .int ∧ E.2.2.1.vm ≠ .unknown) ∧ (∀ w ∈ lw_tbl, rk_isN w = true → va_Nw w U) ∧ va_AO RX0 U ∧ va_AO RX1 U ∧ rk_AOA U
theorem rk_AOA.moved {u U : State} (hvm : u.vm.Alike U.vm) (h : rk_AOA u) : rk_AOA U := by
  obtain ⟨comp, c, k, h1, h2, h3, h4, h5⟩ := arrayOverA_spec h
  obtain ⟨k', hk', he⟩ := hvm.2.2 _ _ h3
  have hi := (hvm.findIdx?_eq _ (fun _ => rfl)).trans h2
  have hkind : k'.kind = .array comp (.array .int) := by rw [he]; exact h4
  have f1 : U.vm.findClass (FieldType.array .int).toString = some comp := by rw [hvm.findClass]; exact h1
  have f2 : U.vm.findClass ("[" ++ (FieldType.array .int).toString) = some c := by rw [hvm.findClass]; exact h5
  unfold rk_AOA Cond.before Cond.holds
  simp only [Cond.value]
  rw [f1, Option.bind_some]
  refine (congrArg (fun o : Option Nat => (o.bind (fun c => (U.vm.classes[c]?).map fun (k : Class) => match k.kind with | .array _ ty => decide (ty = FieldType.array .int) && decide (U.vm.findClass ("[" ++ (FieldType.array .int).toString) = some c) | _ => false) == some true)) hi).trans ?_
  simp [hk', hkind, f2]
theorem rk_Nw_warm {w : Jvm.Cond} (hw : rk_isN w = true) {s U : State} (hW : s.WarmedH U.vm) (h : va_Nw w s) : va_Nw w U := by
  cases w <;> first | exact va_Nw.warmF hW h | exact va_Nw.warmM hW h | cases hw
theorem rk_KA.moved {E : rk_E} {u U : State} {k : Nat} (hvm : u.vm.Alike U.vm) (h : rk_KA E u k) : rk_KA E U k := by
  obtain ⟨kA, comp, h1, h2, h3, h4⟩ := h
  obtain ⟨k', hk', he⟩ := hvm.2.2 _ _ h1
  exact ⟨k', comp, hk', by rw [he]; exact h2, by rw [hvm.findClass]; exact h3, fun C hC => by rw [hvm.findClass]; exact h4 C hC⟩
theorem rk_K.moved {E : rk_E} {u U : State} (hW : u.WarmedH U.vm) (h : rk_K E u) : rk_K E U := by
  have hvm := hW.alike
  obtain ⟨h1, h2, h3, h4, h5, h6, h7⟩ := h
  exact ⟨va_K.moved hvm h1, fun k g1 g2 => (h2 k g1 g2).moved hvm, ⟨State.isArrayOf_alike hvm h3.1, h3.2⟩, fun w hw hn => rk_Nw_warm hn hW (h4 w hw hn), h5.moved hvm, h6.moved hvm, h7.moved hvm⟩
theorem rk_arr {E : rk_E} {U : State} {k : Nat} (h : rk_KA E U k) (sl : Array Value) : U.isArrayOf ({ cls := E.2.1 k, slots := sl, vm := .none } : Cell) (rk_ty k) := by
  obtain ⟨kA, comp, h1, h2, -, -⟩ := h
  exact ⟨(fun q hq => by cases hq), kA, h1, comp, h2⟩
theorem rk_ad_inj {E : rk_E} (hb : E.2.2.2.1 < E.2.2.2.2) {i j : Nat} (h : rk_ad E i = rk_ad E j) : i = j := by
  cases i <;> cases j <;> simp only [rk_ad] at h <;> omega
theorem rk_at.kept {E : rk_E} {a : Nat} {q : Nat × List Value} {H H1 : Heap} (h : rk_at E a q H) (hq : H1[a]? = H[a]?) : rk_at E a q H1 := by
  rcases h with ⟨h1, r, h2, h3, h4⟩ | ⟨h1, h2, h3⟩ | ⟨h1, h2⟩
  · exact Or.inl ⟨h1, r, h2, h3, h4.kept hq⟩
  · exact Or.inr (Or.inl ⟨h1, by rw [hq]; exact h2, h3⟩)
  · exact Or.inr (Or.inr ⟨h1, by rw [hq]; exact h2⟩)
theorem rk_P.set {E : rk_E} {h : rk_S} {H H1 : Heap} {i : Nat} {q q' : Nat × List Value} (hP : rk_P E h H) (hi : h[i]? = some q) (hat : rk_at E (rk_ad E i) q' H1) (hz : H1.size = H.size) (ho : ∀ x : Nat, x ≠ rk_ad E i → H1[x]? = H[x]?) : rk_P E (h.set i q') H1 := by
  obtain ⟨h1, h2, h3, h4⟩ := hP
  refine ⟨h1, by rw [List.length_set]; exact h2, by rw [List.length_set, hz]; exact h3, fun j r hj => ?_⟩
  by_cases e : i = j
  · subst e
    have hl : i < h.length := (List.getElem?_eq_some_iff.mp hi).1
    rw [List.getElem?_set_self hl] at hj
    cases hj
    exact hat
  · rw [List.getElem?_set_ne e] at hj
    exact (h4 j r hj).kept (ho _ (fun q => e (rk_ad_inj h1 q).symm))
theorem rk_P.lt {E : rk_E} {h : rk_S} {H : Heap} (hP : rk_P E h H) {i : Nat} (hi : i < h.length) : rk_ad E i < H.size := by
  obtain ⟨h1, h2, h3, h4⟩ := hP
  cases i with
  | zero => simp only [rk_ad]; omega
  | succ i => simp only [rk_ad]; omega
theorem rk_P.next {E : rk_E} {h : rk_S} {H : Heap} (hP : rk_P E h H) : rk_ad E h.length = H.size := by
  obtain ⟨h1, h2, h3, h4⟩ := hP
  cases hl : h.length with
  | zero => omega
  | succ i => simp only [rk_ad]; omega
theorem rk_P.app {E : rk_E} {h g : rk_S} {H H1 : Heap} (hP : rk_P E h H) (hz : H1.size = H.size + g.length) (ho : ∀ x : Nat, x < H.size → H1[x]? = H[x]?) (hat : ∀ (j : Nat) (q : Nat × List Value), g[j]? = some q → rk_at E (H.size + j) q H1) : rk_P E (h ++ g) H1 := by
  have hP0 := hP
  obtain ⟨h1, h2, h3, h4⟩ := hP
  refine ⟨h1, by rw [List.length_append]; omega, by rw [List.length_append, hz]; omega, fun j r hj => ?_⟩
  by_cases hl : j < h.length
  · rw [List.getElem?_append_left hl] at hj
    exact (h4 j r hj).kept (ho _ (hP0.lt hl))
  · rw [List.getElem?_append_right (by omega)] at hj
    have e : rk_ad E j = H.size + (j - h.length) := by
      cases j with
      | zero => omega
      | succ j => simp only [rk_ad]; omega
    rw [e]
    exact hat _ _ hj
theorem rk_sz_set {h : rk_S} {i : Nat} {q q' : Nat × List Value} (hi : h[i]? = some q) (hq : q'.2.length = q.2.length) : rk_sz (h.set i q') = rk_sz h := by
  unfold rk_sz
  congr 1
  apply List.ext_getElem?
  intro j
  rw [List.getElem?_map, List.getElem?_map]
  by_cases e : i = j
  · subst e
    have hl : i < h.length := (List.getElem?_eq_some_iff.mp hi).1
    rw [List.getElem?_set_self hl, hi]
    simp [hq]
  · rw [List.getElem?_set_ne e]
theorem rk_sz_app (h g : rk_S) : rk_sz (h ++ g) = rk_sz h + rk_sz g := by simp [rk_sz]
theorem rk_find_mem {α : Type} : ∀ {l : List (Nat × α)} {n : Nat} {v : α}, rk_find l n = some v → (n, v) ∈ l
  | [], _, _, h => by cases h
  | q :: r, n, v, h => by
    unfold rk_find at h
    cases e : Nat.beq q.1 n with
    | true =>
      rw [e] at h
      have e1 := Nat.eq_of_beq_eq_true e
      cases h
      subst e1
      exact List.mem_cons_self
    | false =>
      rw [e] at h
      exact List.mem_cons_of_mem _ (rk_find_mem h)
theorem rk_li_spec {lv : rk_L} {k : Nat} {x : Int32} (h : rk_li lv k = some x) : (k, Value.int x) ∈ lv := by
  unfold rk_li at h
  split at h
  · rename_i y hy
    cases h
    exact rk_find_mem hy
  · cases h
theorem rk_lr_spec {lv : rk_L} {k : Nat} {x : Nat} (h : rk_lr lv k = some x) : (k, Value.ref x) ∈ lv := by
  unfold rk_lr at h
  split at h
  · rename_i y hy
    cases h
    exact rk_find_mem hy
  · cases h
theorem rk_jmp_spec {pc t : Nat} {off : Int} (h : rk_jmp pc off = some t) : (pc : Int) + off = (t : Int) := by
  unfold rk_jmp at h
  split at h
  · rename_i y hy
    cases h
    exact hy
  · cases h
theorem rk_up_map (E : rk_E) (lv : rk_L) (i : Nat) (v : Value) : (rk_up lv i v).map (rk_vp E) = (i, rk_v E v) :: (lv.map (rk_vp E)).filter (fun q => !(q.1 == i) && !(q.1 + 1 == i && q.2.category == 2)) := by
  unfold rk_up
  rw [List.map_cons, List.filter_map]
  congr 2
  apply List.filter_congr
  intro q _
  simp [rk_vp, rk_v_cat]
theorem rk_args_map (E : rk_E) : ∀ (i : Nat) (vs : List Value), (lv_args i vs).map (rk_vp E) = lv_args i (vs.map (rk_v E))
  | _, [] => rfl
  | i, v :: vs => by
    simp only [lv_args, List.map_cons, rk_v_cat]
    rw [rk_args_map E _ vs]
    rfl
theorem rk_sl_len (E : rk_E) (vs : List Value) : (lg_sl (vs.map (rk_v E))).length = (lg_sl vs).length := by
  induction vs with
  | nil => rfl
  | cons v vs ih =>
    have e1 : ∀ (w : Value) (ws : List Value), lg_sl (w :: ws) = (if w.category = 2 then [.val w, .second] else [.val w]) ++ lg_sl ws := fun w ws => by simp [lg_sl]
    rw [List.map_cons, e1, e1, List.length_append, List.length_append, ih, rk_v_cat]
    split <;> rfl
theorem rk_cat_sum (E : rk_E) (vs : List Value) : ((vs.map (rk_v E)).map fun v => v.category).sum = (vs.map fun v => v.category).sum := by
  rw [List.map_map]
  congr 1
  apply List.map_congr_left
  intro v _
  exact rk_v_cat E v
theorem rk_setSlot (c : ClassId) (vs : List Value) (j : Nat) (v : Value) : (({ cls := c, slots := vs.toArray, vm := .none } : Cell).setSlot j v) = ({ cls := c, slots := (vs.set j v).toArray, vm := .none } : Cell) := by
  simp [Cell.setSlot]
