/-! THE JUDGEMENT VE: from the method's frame, with these locals and this stack, over the world E, the machine comes to Q; a row an instruction -/
section RowsV
def LV (ls : Array Slot) (nL : Nat) (lv : List (Option Value)) : Prop := ls.size = nL ∧ lv.length = nL ∧ lv_wf ls ∧ ∀ (i : Nat) (v : Value), lv[i]? = some (some v) → ls[i]? = some (.val v)
def toL (lv : List (Option Value)) : List (Nat × Value) := (List.range lv.length).filterMap (fun i => (lv[i]?.join).map (fun v => (i, v)))
/-- no long or double begins at the place ahead of i -/
def c1at (lv : List (Option Value)) (i : Nat) : Bool := match i with
  | 0 => true
  | j + 1 => match lv[j]? with
    | some (some v) => v.category == 1
    | _ => true
theorem c1at_ne {lv : List (Option Value)} {i j : Nat} {u : Value} (h : c1at lv i = true) (hj : lv[j]? = some (some u)) : ¬ (j + 1 = i ∧ u.category = 2) := by
  rintro ⟨rfl, h2⟩
  unfold c1at at h
  rw [hj] at h
  simp [h2] at h
theorem toL_mem {lv : List (Option Value)} {q : Nat × Value} : q ∈ toL lv ↔ lv[q.1]? = some (some q.2) := by
  constructor
  · intro h
    obtain ⟨i, -, hi⟩ := List.mem_filterMap.mp h
    obtain ⟨v, hv, rfl⟩ := Option.map_eq_some_iff.mp hi
    exact Option.join_eq_some_iff.mp hv
  · intro h
    refine List.mem_filterMap.mpr ⟨q.1, List.mem_range.mpr (List.getElem?_eq_some_iff.mp h).1, ?_⟩
    rw [h]
    rfl
theorem LV.has {ls : Array Slot} {nL : Nat} {lv : List (Option Value)} (h : LV ls nL lv) : lv_has ls nL (toL lv) := ⟨h.1, h.2.2.1, fun q hq => h.2.2.2 q.1 q.2 (toL_mem.mp hq)⟩
theorem LV.at {ls : Array Slot} {nL : Nat} {lv : List (Option Value)} (h : LV ls nL lv) {i : Nat} {v : Value} (hi : lv[i]? = some (some v)) : ls[i]? = some (.val v) := h.2.2.2 i v hi
theorem LV.store {ls ls' : Array Slot} {nL : Nat} {lv : List (Option Value)} (h : LV ls nL lv) {i : Nat} {v : Value} (hi : i < nL) (hq : c1at lv i = true) (h' : lv_has ls' nL ((i, v) :: (toL lv).filter (fun q => !(q.1 == i) && !(q.1 + 1 == i && q.2.category == 2)))) : LV ls' nL (lv.set i (some v)) := by
  refine ⟨h'.1, by simp [h.2.1], h'.2.1, fun j u hj => ?_⟩
  by_cases e : i = j
  · subst e
    rw [List.getElem?_set_self (by rw [h.2.1]; exact hi)] at hj
    cases hj
    exact h'.2.2 (i, v) List.mem_cons_self
  · rw [List.getElem?_set_ne e] at hj
    refine h'.2.2 (j, u) (List.mem_cons_of_mem _ (List.mem_filter.mpr ⟨toL_mem.mpr hj, ?_⟩))
    have h3 := c1at_ne hq hj
    have h4 : ¬ j = i := fun z => e z.symm
    simp only [not_and] at h3
    simp [h4]
    intro z
    exact h3 z
theorem LV.store2 {ls ls' : Array Slot} {nL : Nat} {lv : List (Option Value)} (h : LV ls nL lv) {i : Nat} {v : Value} (hi : i + 1 < nL) (hq : c1at lv i = true) (h' : lv_has ls' nL ((i, v) :: (toL lv).filter (fun q => !(q.1 == i) && (!(q.1 == i + 1) && !(q.1 + 1 == i && q.2.category == 2))))) : LV ls' nL ((lv.set i (some v)).set (i + 1) none) := by
  refine ⟨h'.1, by simp [h.2.1], h'.2.1, fun j u hj => ?_⟩
  by_cases e1 : i + 1 = j
  · subst e1
    rw [List.getElem?_set_self (by simp [h.2.1]; exact hi)] at hj
    cases hj
  · rw [List.getElem?_set_ne e1] at hj
    by_cases e : i = j
    · subst e
      rw [List.getElem?_set_self (by rw [h.2.1]; omega)] at hj
      cases hj
      exact h'.2.2 (i, v) List.mem_cons_self
    · rw [List.getElem?_set_ne e] at hj
      refine h'.2.2 (j, u) (List.mem_cons_of_mem _ (List.mem_filter.mpr ⟨toL_mem.mpr hj, ?_⟩))
      have h3 := c1at_ne hq hj
      have h4 : ¬ j = i := fun z => e z.symm
      have h5 : ¬ j = i + 1 := fun z => e1 z.symm
      simp only [not_and] at h3
      simp [h4, h5]
      intro z
      exact h3 z
theorem lg_sl1 : ∀ vs : List Value, (∀ v ∈ vs, v.category = 1) → lg_sl vs = vs.map Slot.val
  | [], _ => rfl
  | v :: t, h => by
    have h1 := lg_sl1 t (fun u hu => h u (List.mem_cons_of_mem _ hu))
    have h2 := h v List.mem_cons_self
    unfold lg_sl at h1 ⊢
    rw [List.flatMap_cons, h1]
    simp [h2]
theorem lv_args1 : ∀ (vs : List Value) (k : Nat), (∀ v ∈ vs, v.category = 1) → ∀ (i : Nat) (v : Value), vs[i]? = some v → (k + i, v) ∈ lv_args k vs
  | [], _, _, i, v, h => by simp at h
  | u :: t, k, hc, i, v, h => by
    have h2 : ¬ u.category = 2 := by rw [hc u List.mem_cons_self]; decide
    unfold lv_args
    rw [if_neg h2]
    cases i with
    | zero =>
      cases h
      exact List.mem_cons_self
    | succ j =>
      have h3 := lv_args1 t (k + 1) (fun u hu => hc u (List.mem_cons_of_mem _ hu)) j v (by simpa using h)
      rw [show k + (j + 1) = k + 1 + j by omega]
      exact List.mem_cons_of_mem _ h3
theorem LV.entry (vs : List Value) (n : Nat) (hc : ∀ v ∈ vs, v.category = 1) (hn : vs.length ≤ n) : LV ((lg_sl vs ++ List.replicate (n - (lg_sl vs).length) Slot.unset).toArray) n (vs.map some ++ List.replicate (n - vs.length) none) := by
  have hl : (lg_sl vs).length ≤ n := by rw [lg_sl1 vs hc, List.length_map]; exact hn
  have h := lv_entry vs (n := n) hl
  refine ⟨h.1, by simp; omega, h.2.1, fun i v hi => ?_⟩
  by_cases hlt : i < vs.length
  · rw [List.getElem?_append_left (by simpa using hlt)] at hi
    simp only [List.getElem?_map, Option.map_eq_some_iff] at hi
    obtain ⟨u, hu, e⟩ := hi
    cases e
    have h1 := lv_args1 vs 0 hc i v hu
    rw [Nat.zero_add] at h1
    exact h.2.2 _ h1
  · rw [List.getElem?_append_right (by simpa using Nat.not_lt.mp hlt)] at hi
    have := List.mem_of_getElem? hi
    simp at this
/-- a method's first locals, longs among them -/
def lvA : List Value → List (Option Value)
  | [] => []
  | v :: t => if v.category = 2 then some v :: none :: lvA t else some v :: lvA t
theorem lvA_args : ∀ (vs : List Value) (k i : Nat) (v : Value), (lvA vs)[i]? = some (some v) → (k + i, v) ∈ lv_args k vs
  | [], _, i, v, h => by simp [lvA] at h
  | u :: t, k, i, v, h => by
    unfold lvA at h
    unfold lv_args
    by_cases h2 : u.category = 2
    · rw [if_pos h2] at h ⊢
      match i, h with
      | 0, h => cases h; exact List.mem_cons_self
      | 1, h => simp at h
      | j + 2, h =>
        have h3 := lvA_args t (k + 2) j v (by simpa using h)
        rw [show k + (j + 2) = k + 2 + j by omega]
        exact List.mem_cons_of_mem _ h3
    · rw [if_neg h2] at h ⊢
      match i, h with
      | 0, h => cases h; exact List.mem_cons_self
      | j + 1, h =>
        have h3 := lvA_args t (k + 1) j v (by simpa using h)
        rw [show k + (j + 1) = k + 1 + j by omega]
        exact List.mem_cons_of_mem _ h3
theorem lg_slA : ∀ vs : List Value, (lg_sl vs).length = (lvA vs).length
  | [] => rfl
  | v :: t => by
    have h1 := lg_slA t
    unfold lg_sl at h1 ⊢
    unfold lvA
    rw [List.flatMap_cons, List.length_append, h1]
    by_cases h2 : v.category = 2
    · rw [if_pos h2, if_pos h2]; simp; omega
    · rw [if_neg h2, if_neg h2]; simp; omega
theorem LV.entryA (vs : List Value) (n : Nat) (hn : (lvA vs).length ≤ n) : LV ((lg_sl vs ++ List.replicate (n - (lg_sl vs).length) Slot.unset).toArray) n (lvA vs ++ List.replicate (n - (lvA vs).length) none) := by
  have hl : (lg_sl vs).length ≤ n := by rw [lg_slA]; exact hn
  have h := lv_entry vs (n := n) hl
  refine ⟨h.1, by simp; omega, h.2.1, fun i v hi => ?_⟩
  by_cases hlt : i < (lvA vs).length
  · rw [List.getElem?_append_left hlt] at hi
    have h1 := lvA_args vs 0 i v hi
    rw [Nat.zero_add] at h1
    exact h.2.2 _ h1
  · rw [List.getElem?_append_right (Nat.not_lt.mp hlt)] at hi
    have := List.mem_of_getElem? hi
    simp at this
/-- what stands through a method's walk -/
def Cx (p : Program) (l : Launch) (R : Room) (s : State) (m : MethodId) (args : Array Value) (meth : Method) (c : Code) (cc : ByteArray) (nL : Nat) (own : String) (ret : Option FieldType) (hh : List (Nat × Nat × Nat × Nat)) (w : Wo) : Prop :=
  (p.tables.exec = Jvm.exec ∧ c.code = cc ∧ c.maxLocals = nL ∧ s.vm.findClass own = some m.cls) ∧ (meth.locks = false ∧ meth.sig.returnType = ret ∧ c.exceptionTable.toList = tableOf hh ∧ l.stackTraces = false) ∧ (KW w s ∧ WI w ∧ HZ w s s.heap)
def VE (p : Program) (l : Launch) (e : Env) (R : Room) (s : State) (m : MethodId) (args : Array Value) (below : List Frame) (meth : Method) (c : Code) (cells slots : Nat) (Q : State → Prop) (nL : Nat) (w : Wo) (pc : Nat) (lv : List (Option Value)) (st : List Value) (E : Nat × Nat → va_E) : Prop :=
  ∀ (H : Heap) (locs : List Loc) (ls : Array Slot), va_P w.2.2.1 vwCl (WL w E) H → va_S (AA w s.heap.size) s.heap H locs → LV ls nL lv → W p l e R s m args below meth c H locs cells slots Q (F0 m pc ls st)
/-- an exception of the class X9 is in flight at pc -/
def VX (p : Program) (l : Launch) (e : Env) (R : Room) (s : State) (m : MethodId) (args : Array Value) (below : List Frame) (meth : Method) (c : Code) (cells slots : Nat) (Q : State → Prop) (nL : Nat) (w : Wo) (X9 : String) (pc : Nat) (lv : List (Option Value)) (st : List Value) (E : Nat × Nat → va_E) : Prop :=
  ∀ (H : Heap) (locs : List Loc) (ls : Array Slot) (q : Addr) (ce : Cell), va_P w.2.2.1 vwCl (WL w E) H → va_S (AA w s.heap.size) s.heap H locs → LV ls nL lv → H[q]? = some ce → ce.vm = .none → s.vm.findClass X9 = some ce.cls → vx_W p l e R s m args below meth c H locs cells slots Q (F0 m pc ls st) q
variable {p : Program} {l : Launch} {e : Env} {R : Room} {s : State} {m : MethodId} {args : Array Value} {below : List Frame} {meth : Method} {c : Code} {cells slots : Nat} {Q : State → Prop} {cc : ByteArray} {nL : Nat} {own : String} {ret : Option FieldType} {hh : List (Nat × Nat × Nat × Nat)} {w : Wo} {pc : Nat} {lv : List (Option Value)} {st : List Value} {E : Nat × Nat → va_E}
theorem Cx.x (X : Cx p l R s m args meth c cc nL own ret hh w) : p.tables.exec = Jvm.exec := X.1.1
theorem Cx.b (X : Cx p l R s m args meth c cc nL own ret hh w) : c.code = cc := X.1.2.1
theorem Cx.ml (X : Cx p l R s m args meth c cc nL own ret hh w) : c.maxLocals = nL := X.1.2.2.1
theorem Cx.ow (X : Cx p l R s m args meth c cc nL own ret hh w) : s.vm.findClass own = some m.cls := X.1.2.2.2
theorem Cx.lk (X : Cx p l R s m args meth c cc nL own ret hh w) : meth.locks = false := X.2.1.1
theorem Cx.rt (X : Cx p l R s m args meth c cc nL own ret hh w) : meth.sig.returnType = ret := X.2.1.2.1
theorem Cx.tab (X : Cx p l R s m args meth c cc nL own ret hh w) : c.exceptionTable.toList = tableOf hh := X.2.1.2.2.1
theorem Cx.nst (X : Cx p l R s m args meth c cc nL own ret hh w) : l.stackTraces = false := X.2.1.2.2.2
theorem Cx.kw (X : Cx p l R s m args meth c cc nL own ret hh w) : KW w s := X.2.2.1
theorem Cx.wi (X : Cx p l R s m args meth c cc nL own ret hh w) : WI w := X.2.2.2.1
theorem Cx.hz (X : Cx p l R s m args meth c cc nL own ret hh w) : HZ w s s.heap := X.2.2.2.2
theorem Cx.k (X : Cx p l R s m args meth c cc nL own ret hh w) : va_K w.2.2.1 vwCl (tyl w.2.2.2.1) s := X.kw.2.1
theorem Cx.wd (X : Cx p l R s m args meth c cc nL own ret hh w) {q : Cond} (hm : q ∈ lw_tb2) (hg : gw q = true) : q.before args s = true := X.kw.1.at hm hg
theorem r_iconst (X : Cx p l R s m args meth c cc nL own ret hh w) {n : Int} {v : Int32} (d : decode cc pc = .ok (.iconst n, 1)) (hv : Int32.ofInt n = v) (k : VE p l e R s m args below meth c cells slots Q nL w (pc + 1) lv (.int v :: st) E) : VE p l e R s m args below meth c cells slots Q nL w (pc) lv (st) E := fun H locs ls hP hS hL => lv_iconst X.x X.b d hv (k H locs ls hP hS hL)
theorem r_bipush (X : Cx p l R s m args meth c cc nL own ret hh w) {n : Int} {v : Int32} (d : decode cc pc = .ok (.bipush n, 2)) (hv : (Int8.ofInt n).toInt32 = v) (k : VE p l e R s m args below meth c cells slots Q nL w (pc + 2) lv (.int v :: st) E) : VE p l e R s m args below meth c cells slots Q nL w (pc) lv (st) E := fun H locs ls hP hS hL => lv_bipush X.x X.b d hv (k H locs ls hP hS hL)
theorem r_sipush (X : Cx p l R s m args meth c cc nL own ret hh w) {n : Int} {v : Int32} (d : decode cc pc = .ok (.sipush n, 3)) (hv : (Int16.ofInt n).toInt32 = v) (k : VE p l e R s m args below meth c cells slots Q nL w (pc + 3) lv (.int v :: st) E) : VE p l e R s m args below meth c cells slots Q nL w (pc) lv (st) E := fun H locs ls hP hS hL => lv_sipush X.x X.b d hv (k H locs ls hP hS hL)
theorem r_fconst0 (X : Cx p l R s m args meth c cc nL own ret hh w)  (d : decode cc pc = .ok (.fconst 0, 1))  (k : VE p l e R s m args below meth c cells slots Q nL w (pc + 1) lv (.float 0 :: st) E) : VE p l e R s m args below meth c cells slots Q nL w (pc) lv (st) E := fun H locs ls hP hS hL => lv_fconst0 X.x X.b d  (k H locs ls hP hS hL)
theorem r_iload_n (X : Cx p l R s m args meth c cc nL own ret hh w) {k : Fin 4} {i : Nat} {x : Int32} (d : decode cc pc = .ok (.iload_n k, 1)) (hi : (k : Nat) = i) (hl : lv[i]? = some (some (.int x))) (k : VE p l e R s m args below meth c cells slots Q nL w (pc + 1) lv (.int x :: st) E) : VE p l e R s m args below meth c cells slots Q nL w (pc) lv (st) E := fun H locs ls hP hS hL => lv_iload_n X.x X.b d hi (hL.at hl) (k H locs ls hP hS hL)
theorem r_istore_n (X : Cx p l R s m args meth c cc nL own ret hh w) {k : Fin 4} {i : Nat} {x : Int32} {lv2 : List (Option Value)} (d : decode cc pc = .ok (.istore_n k, 1)) (hi : (k : Nat) = i) (hn : i < nL) (hl : lv.set i (some (.int x)) = lv2) (k : VE p l e R s m args below meth c cells slots Q nL w (pc + 1) lv2 (st) E) (hq : c1at lv i = true := by rfl) : VE p l e R s m args below meth c cells slots Q nL w (pc) lv (.int x :: st) E := fun H locs ls hP hS hL => lv_istore_n X.x X.b d hi hL.has hn rfl (fun ls2 h2 => k H locs ls2 hP hS (hl ▸ hL.store hn hq h2))
theorem r_iload (X : Cx p l R s m args meth c cc nL own ret hh w) {i : Nat} {x : Int32} (d : decode cc pc = .ok (.iload i, 2)) (hl : lv[i]? = some (some (.int x))) (k : VE p l e R s m args below meth c cells slots Q nL w (pc + 2) lv (.int x :: st) E) : VE p l e R s m args below meth c cells slots Q nL w (pc) lv (st) E := fun H locs ls hP hS hL => lv_iload X.x X.b d (hL.at hl) (k H locs ls hP hS hL)
theorem r_istore (X : Cx p l R s m args meth c cc nL own ret hh w) {i : Nat} {x : Int32} {lv2 : List (Option Value)} (d : decode cc pc = .ok (.istore i, 2)) (hn : i < nL) (hl : lv.set i (some (.int x)) = lv2) (k : VE p l e R s m args below meth c cells slots Q nL w (pc + 2) lv2 (st) E) (hq : c1at lv i = true := by rfl) : VE p l e R s m args below meth c cells slots Q nL w (pc) lv (.int x :: st) E := fun H locs ls hP hS hL => lv_istore X.x X.b d hL.has hn rfl (fun ls2 h2 => k H locs ls2 hP hS (hl ▸ hL.store hn hq h2))
theorem r_aload_n (X : Cx p l R s m args meth c cc nL own ret hh w) {k : Fin 4} {i : Nat} {x : Nat} (d : decode cc pc = .ok (.aload_n k, 1)) (hi : (k : Nat) = i) (hl : lv[i]? = some (some (.ref x))) (k : VE p l e R s m args below meth c cells slots Q nL w (pc + 1) lv (.ref x :: st) E) : VE p l e R s m args below meth c cells slots Q nL w (pc) lv (st) E := fun H locs ls hP hS hL => lv_aload_n X.x X.b d hi (hL.at hl) (k H locs ls hP hS hL)
theorem r_astore_n (X : Cx p l R s m args meth c cc nL own ret hh w) {k : Fin 4} {i : Nat} {x : Nat} {lv2 : List (Option Value)} (d : decode cc pc = .ok (.astore_n k, 1)) (hi : (k : Nat) = i) (hn : i < nL) (hl : lv.set i (some (.ref x)) = lv2) (k : VE p l e R s m args below meth c cells slots Q nL w (pc + 1) lv2 (st) E) (hq : c1at lv i = true := by rfl) : VE p l e R s m args below meth c cells slots Q nL w (pc) lv (.ref x :: st) E := fun H locs ls hP hS hL => lv_astore_n X.x X.b d hi hL.has hn rfl (fun ls2 h2 => k H locs ls2 hP hS (hl ▸ hL.store hn hq h2))
theorem r_aload (X : Cx p l R s m args meth c cc nL own ret hh w) {i : Nat} {x : Nat} (d : decode cc pc = .ok (.aload i, 2)) (hl : lv[i]? = some (some (.ref x))) (k : VE p l e R s m args below meth c cells slots Q nL w (pc + 2) lv (.ref x :: st) E) : VE p l e R s m args below meth c cells slots Q nL w (pc) lv (st) E := fun H locs ls hP hS hL => lv_aload X.x X.b d (hL.at hl) (k H locs ls hP hS hL)
theorem r_astore (X : Cx p l R s m args meth c cc nL own ret hh w) {i : Nat} {x : Nat} {lv2 : List (Option Value)} (d : decode cc pc = .ok (.astore i, 2)) (hn : i < nL) (hl : lv.set i (some (.ref x)) = lv2) (k : VE p l e R s m args below meth c cells slots Q nL w (pc + 2) lv2 (st) E) (hq : c1at lv i = true := by rfl) : VE p l e R s m args below meth c cells slots Q nL w (pc) lv (.ref x :: st) E := fun H locs ls hP hS hL => lv_astore X.x X.b d hL.has hn rfl (fun ls2 h2 => k H locs ls2 hP hS (hl ▸ hL.store hn hq h2))
theorem r_fload (X : Cx p l R s m args meth c cc nL own ret hh w) {i : Nat} {x : UInt32} (d : decode cc pc = .ok (.fload i, 2)) (hl : lv[i]? = some (some (.float x))) (k : VE p l e R s m args below meth c cells slots Q nL w (pc + 2) lv (.float x :: st) E) : VE p l e R s m args below meth c cells slots Q nL w (pc) lv (st) E := fun H locs ls hP hS hL => lv_fload X.x X.b d (hL.at hl) (k H locs ls hP hS hL)
theorem r_fstore (X : Cx p l R s m args meth c cc nL own ret hh w) {i : Nat} {x : UInt32} {lv2 : List (Option Value)} (d : decode cc pc = .ok (.fstore i, 2)) (hn : i < nL) (hl : lv.set i (some (.float x)) = lv2) (k : VE p l e R s m args below meth c cells slots Q nL w (pc + 2) lv2 (st) E) (hq : c1at lv i = true := by rfl) : VE p l e R s m args below meth c cells slots Q nL w (pc) lv (.float x :: st) E := fun H locs ls hP hS hL => lv_fstore X.x X.b d hL.has hn rfl (fun ls2 h2 => k H locs ls2 hP hS (hl ▸ hL.store hn hq h2))
theorem toL_at {i : Nat} {v : Value} (h : lv[i]? = some (some v)) : ∃ k : Nat, (toL lv)[k]? = some (i, v) := List.getElem?_of_mem (toL_mem.mpr h)
theorem r_iinc (X : Cx p l R s m args meth c cc nL own ret hh w) {i : Nat} {n : Int} {x v : Int32} {lv2 : List (Option Value)} (d : decode cc pc = .ok (.iinc i n, 3)) (hx : lv[i]? = some (some (.int x))) (hv : x + Int32.ofInt n = v) (hn : i < nL) (hl : lv.set i (some (.int v)) = lv2) (k : VE p l e R s m args below meth c cells slots Q nL w (pc + 3) lv2 (st) E) (hq : c1at lv i = true := by rfl) : VE p l e R s m args below meth c cells slots Q nL w (pc) lv (st) E := fun H locs ls hP hS hL => by
  obtain ⟨j, hj⟩ := toL_at hx
  exact lv_iinc X.x X.b d hL.has hj hv hn rfl (fun ls2 h2 => k H locs ls2 hP hS (hl ▸ hL.store hn hq h2))
theorem r_iadd (X : Cx p l R s m args meth c cc nL own ret hh w) {x y : Int32} (d : decode cc pc = .ok (.iadd, 1))  (k : VE p l e R s m args below meth c cells slots Q nL w (pc + 1) lv (.int (x + y) :: st) E) : VE p l e R s m args below meth c cells slots Q nL w (pc) lv (.int y :: .int x :: st) E := fun H locs ls hP hS hL => lv_iadd X.x X.b d  (k H locs ls hP hS hL)
theorem r_isub (X : Cx p l R s m args meth c cc nL own ret hh w) {x y : Int32} (d : decode cc pc = .ok (.isub, 1))  (k : VE p l e R s m args below meth c cells slots Q nL w (pc + 1) lv (.int (x - y) :: st) E) : VE p l e R s m args below meth c cells slots Q nL w (pc) lv (.int y :: .int x :: st) E := fun H locs ls hP hS hL => lv_isub X.x X.b d  (k H locs ls hP hS hL)
theorem r_imul (X : Cx p l R s m args meth c cc nL own ret hh w) {x y : Int32} (d : decode cc pc = .ok (.imul, 1))  (k : VE p l e R s m args below meth c cells slots Q nL w (pc + 1) lv (.int (x * y) :: st) E) : VE p l e R s m args below meth c cells slots Q nL w (pc) lv (.int y :: .int x :: st) E := fun H locs ls hP hS hL => lv_imul X.x X.b d  (k H locs ls hP hS hL)
theorem r_iand (X : Cx p l R s m args meth c cc nL own ret hh w) {x y : Int32} (d : decode cc pc = .ok (.iand, 1))  (k : VE p l e R s m args below meth c cells slots Q nL w (pc + 1) lv (.int (x &&& y) :: st) E) : VE p l e R s m args below meth c cells slots Q nL w (pc) lv (.int y :: .int x :: st) E := fun H locs ls hP hS hL => lv_iand X.x X.b d  (k H locs ls hP hS hL)
theorem r_ishl (X : Cx p l R s m args meth c cc nL own ret hh w) {x y : Int32} (d : decode cc pc = .ok (.ishl, 1)) (k : VE p l e R s m args below meth c cells slots Q nL w (pc + 1) lv (.int (x <<< (y &&& 31)) :: st) E) : VE p l e R s m args below meth c cells slots Q nL w (pc) lv (.int y :: .int x :: st) E := fun H locs ls hP hS hL => lv_ishl X.x X.b d (k H locs ls hP hS hL)
theorem r_idiv (X : Cx p l R s m args meth c cc nL own ret hh w) {x y : Int32} (d : decode cc pc = .ok (.idiv, 1)) (hne : ¬ y = 0) (k : VE p l e R s m args below meth c cells slots Q nL w (pc + 1) lv (.int (x / y) :: st) E) : VE p l e R s m args below meth c cells slots Q nL w (pc) lv (.int y :: .int x :: st) E := fun H locs ls hP hS hL => lv_idiv X.x X.b d hne (k H locs ls hP hS hL)
theorem r_irem (X : Cx p l R s m args meth c cc nL own ret hh w) {x y : Int32} (d : decode cc pc = .ok (.irem, 1)) (hne : ¬ y = 0) (k : VE p l e R s m args below meth c cells slots Q nL w (pc + 1) lv (.int (x - x / y * y) :: st) E) : VE p l e R s m args below meth c cells slots Q nL w (pc) lv (.int y :: .int x :: st) E := fun H locs ls hP hS hL => lv_irem X.x X.b d hne (k H locs ls hP hS hL)
theorem r_ladd (X : Cx p l R s m args meth c cc nL own ret hh w) {x y : Int64} (d : decode cc pc = .ok (.ladd, 1))  (k : VE p l e R s m args below meth c cells slots Q nL w (pc + 1) lv (.long (x + y) :: st) E) : VE p l e R s m args below meth c cells slots Q nL w (pc) lv (.long y :: .long x :: st) E := fun H locs ls hP hS hL => lv_ladd X.x X.b d  (k H locs ls hP hS hL)
theorem r_i2l (X : Cx p l R s m args meth c cc nL own ret hh w) {x : Int32} (d : decode cc pc = .ok (.i2l, 1))  (k : VE p l e R s m args below meth c cells slots Q nL w (pc + 1) lv (.long x.toInt64 :: st) E) : VE p l e R s m args below meth c cells slots Q nL w (pc) lv (.int x :: st) E := fun H locs ls hP hS hL => lv_i2l X.x X.b d rfl (k H locs ls hP hS hL)
theorem r_i2c (X : Cx p l R s m args meth c cc nL own ret hh w) {x : Int32} (d : decode cc pc = .ok (.i2c, 1))  (k : VE p l e R s m args below meth c cells slots Q nL w (pc + 1) lv (.int (x.toUInt32 % 65536).toInt32 :: st) E) : VE p l e R s m args below meth c cells slots Q nL w (pc) lv (.int x :: st) E := fun H locs ls hP hS hL => lv_i2c X.x X.b d rfl (k H locs ls hP hS hL)
theorem r_lcmp (X : Cx p l R s m args meth c cc nL own ret hh w) {x y : Int64} (d : decode cc pc = .ok (.lcmp, 1))  (k : VE p l e R s m args below meth c cells slots Q nL w (pc + 1) lv (.int (lg_cmp x y) :: st) E) : VE p l e R s m args below meth c cells slots Q nL w (pc) lv (.long y :: .long x :: st) E := fun H locs ls hP hS hL => W.lcmp X.x X.b d  (k H locs ls hP hS hL)
theorem r_i2f (X : Cx p l R s m args meth c cc nL own ret hh w) {x : Int32} (d : decode cc pc = .ok (.i2f, 1))  (k : VE p l e R s m args below meth c cells slots Q nL w (pc + 1) lv (.float (FP.i2f x) :: st) E) : VE p l e R s m args below meth c cells slots Q nL w (pc) lv (.int x :: st) E := fun H locs ls hP hS hL => lv_i2f X.x X.b d  (k H locs ls hP hS hL)
theorem r_fdiv (X : Cx p l R s m args meth c cc nL own ret hh w) {x y : UInt32} (d : decode cc pc = .ok (.fdiv, 1)) (hne : vf_n32 (FP.fdiv x y)) (k : VE p l e R s m args below meth c cells slots Q nL w (pc + 1) lv (.float (FP.fdiv x y) :: st) E) : VE p l e R s m args below meth c cells slots Q nL w (pc) lv (.float y :: .float x :: st) E := fun H locs ls hP hS hL => lv_fdiv X.x X.b d hne (k H locs ls hP hS hL)
theorem r_f2d (X : Cx p l R s m args meth c cc nL own ret hh w) {x : UInt32} (d : decode cc pc = .ok (.f2d, 1)) (hne : vf_n64 (FP.f2d x)) (k : VE p l e R s m args below meth c cells slots Q nL w (pc + 1) lv (.double (FP.f2d x) :: st) E) : VE p l e R s m args below meth c cells slots Q nL w (pc) lv (.float x :: st) E := fun H locs ls hP hS hL => lv_f2d X.x X.b d hne (k H locs ls hP hS hL)
theorem r_dcmp (X : Cx p l R s m args meth c cc nL own ret hh w) {x y : UInt64} {op : CmpOp} (d : decode cc pc = .ok (.dcmp op, 1))  (k : VE p l e R s m args below meth c cells slots Q nL w (pc + 1) lv (.int (Op.cmpValue (FP.dcmp x y) op) :: st) E) : VE p l e R s m args below meth c cells slots Q nL w (pc) lv (.double y :: .double x :: st) E := fun H locs ls hP hS hL => lv_dcmp X.x X.b d  (k H locs ls hP hS hL)
theorem r_fcmp (X : Cx p l R s m args meth c cc nL own ret hh w) {x y : UInt32} {op : CmpOp} (d : decode cc pc = .ok (.fcmp op, 1))  (k : VE p l e R s m args below meth c cells slots Q nL w (pc + 1) lv (.int (Op.cmpValue (FP.fcmp x y) op) :: st) E) : VE p l e R s m args below meth c cells slots Q nL w (pc) lv (.float y :: .float x :: st) E := fun H locs ls hP hS hL => lv_fcmp X.x X.b d  (k H locs ls hP hS hL)
theorem r_dup (X : Cx p l R s m args meth c cc nL own ret hh w) {va : Value} (d : decode cc pc = .ok (.dup, 1)) (h1 : va.category = 1) (k : VE p l e R s m args below meth c cells slots Q nL w (pc + 1) lv (va :: va :: st) E) : VE p l e R s m args below meth c cells slots Q nL w (pc) lv (va :: st) E := fun H locs ls hP hS hL => lv_dup X.x X.b d h1 (k H locs ls hP hS hL)
theorem r_pop (X : Cx p l R s m args meth c cc nL own ret hh w) {va : Value} (d : decode cc pc = .ok (.pop, 1)) (h1 : va.category = 1) (k : VE p l e R s m args below meth c cells slots Q nL w (pc + 1) lv (st) E) : VE p l e R s m args below meth c cells slots Q nL w (pc) lv (va :: st) E := fun H locs ls hP hS hL => lv_pop X.x X.b d h1 (k H locs ls hP hS hL)
-- shapes of the kit's own rows for dup_x1 and dup2
theorem r_dup_x1 (X : Cx p l R s m args meth c cc nL own ret hh w) {va vb : Value} (d : decode cc pc = .ok (.dup_x1, 1)) (h1 : va.category = 1) (h2 : vb.category = 1) (k : VE p l e R s m args below meth c cells slots Q nL w (pc + 1) lv (va :: vb :: va :: st) E) : VE p l e R s m args below meth c cells slots Q nL w (pc) lv (va :: vb :: st) E := fun H locs ls hP hS hL => lv_dup_x1 X.x X.b d h1 h2 (k H locs ls hP hS hL)
theorem r_dup2 (X : Cx p l R s m args meth c cc nL own ret hh w) {va vb : Value} (d : decode cc pc = .ok (.dup2, 1)) (h1 : va.category = 1) (h2 : vb.category = 1) (k : VE p l e R s m args below meth c cells slots Q nL w (pc + 1) lv (va :: vb :: va :: vb :: st) E) : VE p l e R s m args below meth c cells slots Q nL w (pc) lv (va :: vb :: st) E := fun H locs ls hP hS hL => lv_dup2_11 X.x X.b d h1 h2 (k H locs ls hP hS hL)
theorem r_goto (X : Cx p l R s m args meth c cc nL own ret hh w) {off : Int} {tgt : Nat} (d : decode cc pc = .ok (.goto off, 3)) (ht : (pc : Int) + off = (tgt : Int)) (k : VE p l e R s m args below meth c cells slots Q nL w (tgt) lv (st) E) : VE p l e R s m args below meth c cells slots Q nL w (pc) lv (st) E := fun H locs ls hP hS hL => lv_goto X.x X.b d ht (k H locs ls hP hS hL)
theorem r_if_eq (X : Cx p l R s m args meth c cc nL own ret hh w) {x : Int32} {off : Int} {tgt : Nat} (d : decode cc pc = .ok (.ifCond .eq off, 3)) (ht : (pc : Int) + off = (tgt : Int)) (kt : x = 0 → VE p l e R s m args below meth c cells slots Q nL w (tgt) lv (st) E) (kf : ¬ x = 0 → VE p l e R s m args below meth c cells slots Q nL w (pc + 3) lv (st) E) : VE p l e R s m args below meth c cells slots Q nL w (pc) lv (.int x :: st) E := fun H locs ls hP hS hL => lv_if_eq X.x X.b d ht (fun h => kt h H locs ls hP hS hL) (fun h => kf h H locs ls hP hS hL)
theorem r_if_ne (X : Cx p l R s m args meth c cc nL own ret hh w) {x : Int32} {off : Int} {tgt : Nat} (d : decode cc pc = .ok (.ifCond .ne off, 3)) (ht : (pc : Int) + off = (tgt : Int)) (kt : ¬ x = 0 → VE p l e R s m args below meth c cells slots Q nL w (tgt) lv (st) E) (kf : x = 0 → VE p l e R s m args below meth c cells slots Q nL w (pc + 3) lv (st) E) : VE p l e R s m args below meth c cells slots Q nL w (pc) lv (.int x :: st) E := fun H locs ls hP hS hL => lv_if_ne X.x X.b d ht (fun h => kt h H locs ls hP hS hL) (fun h => kf h H locs ls hP hS hL)
theorem r_if_lt (X : Cx p l R s m args meth c cc nL own ret hh w) {x : Int32} {off : Int} {tgt : Nat} (d : decode cc pc = .ok (.ifCond .lt off, 3)) (ht : (pc : Int) + off = (tgt : Int)) (kt : x < 0 → VE p l e R s m args below meth c cells slots Q nL w (tgt) lv (st) E) (kf : ¬ x < 0 → VE p l e R s m args below meth c cells slots Q nL w (pc + 3) lv (st) E) : VE p l e R s m args below meth c cells slots Q nL w (pc) lv (.int x :: st) E := fun H locs ls hP hS hL => lv_if_lt X.x X.b d ht (fun h => kt h H locs ls hP hS hL) (fun h => kf h H locs ls hP hS hL)
theorem r_if_ge (X : Cx p l R s m args meth c cc nL own ret hh w) {x : Int32} {off : Int} {tgt : Nat} (d : decode cc pc = .ok (.ifCond .ge off, 3)) (ht : (pc : Int) + off = (tgt : Int)) (kt : 0 ≤ x → VE p l e R s m args below meth c cells slots Q nL w (tgt) lv (st) E) (kf : ¬ 0 ≤ x → VE p l e R s m args below meth c cells slots Q nL w (pc + 3) lv (st) E) : VE p l e R s m args below meth c cells slots Q nL w (pc) lv (.int x :: st) E := fun H locs ls hP hS hL => lv_if_ge X.x X.b d ht (fun h => kt h H locs ls hP hS hL) (fun h => kf h H locs ls hP hS hL)
theorem r_if_gt (X : Cx p l R s m args meth c cc nL own ret hh w) {x : Int32} {off : Int} {tgt : Nat} (d : decode cc pc = .ok (.ifCond .gt off, 3)) (ht : (pc : Int) + off = (tgt : Int)) (kt : 0 < x → VE p l e R s m args below meth c cells slots Q nL w (tgt) lv (st) E) (kf : ¬ 0 < x → VE p l e R s m args below meth c cells slots Q nL w (pc + 3) lv (st) E) : VE p l e R s m args below meth c cells slots Q nL w (pc) lv (.int x :: st) E := fun H locs ls hP hS hL => lv_if_gt X.x X.b d ht (fun h => kt h H locs ls hP hS hL) (fun h => kf h H locs ls hP hS hL)
theorem r_if_le (X : Cx p l R s m args meth c cc nL own ret hh w) {x : Int32} {off : Int} {tgt : Nat} (d : decode cc pc = .ok (.ifCond .le off, 3)) (ht : (pc : Int) + off = (tgt : Int)) (kt : x ≤ 0 → VE p l e R s m args below meth c cells slots Q nL w (tgt) lv (st) E) (kf : ¬ x ≤ 0 → VE p l e R s m args below meth c cells slots Q nL w (pc + 3) lv (st) E) : VE p l e R s m args below meth c cells slots Q nL w (pc) lv (.int x :: st) E := fun H locs ls hP hS hL => lv_if_le X.x X.b d ht (fun h => kt h H locs ls hP hS hL) (fun h => kf h H locs ls hP hS hL)
theorem r_icmp_eq (X : Cx p l R s m args meth c cc nL own ret hh w) {x y : Int32} {off : Int} {tgt : Nat} (d : decode cc pc = .ok (.if_icmp .eq off, 3)) (ht : (pc : Int) + off = (tgt : Int)) (kt : x = y → VE p l e R s m args below meth c cells slots Q nL w (tgt) lv (st) E) (kf : ¬ x = y → VE p l e R s m args below meth c cells slots Q nL w (pc + 3) lv (st) E) : VE p l e R s m args below meth c cells slots Q nL w (pc) lv (.int y :: .int x :: st) E := fun H locs ls hP hS hL => lv_icmp_eq X.x X.b d ht (fun h => kt h H locs ls hP hS hL) (fun h => kf h H locs ls hP hS hL)
theorem r_icmp_ne (X : Cx p l R s m args meth c cc nL own ret hh w) {x y : Int32} {off : Int} {tgt : Nat} (d : decode cc pc = .ok (.if_icmp .ne off, 3)) (ht : (pc : Int) + off = (tgt : Int)) (kt : ¬ x = y → VE p l e R s m args below meth c cells slots Q nL w (tgt) lv (st) E) (kf : x = y → VE p l e R s m args below meth c cells slots Q nL w (pc + 3) lv (st) E) : VE p l e R s m args below meth c cells slots Q nL w (pc) lv (.int y :: .int x :: st) E := fun H locs ls hP hS hL => lv_icmp_ne X.x X.b d ht (fun h => kt h H locs ls hP hS hL) (fun h => kf h H locs ls hP hS hL)
theorem r_icmp_lt (X : Cx p l R s m args meth c cc nL own ret hh w) {x y : Int32} {off : Int} {tgt : Nat} (d : decode cc pc = .ok (.if_icmp .lt off, 3)) (ht : (pc : Int) + off = (tgt : Int)) (kt : x < y → VE p l e R s m args below meth c cells slots Q nL w (tgt) lv (st) E) (kf : ¬ x < y → VE p l e R s m args below meth c cells slots Q nL w (pc + 3) lv (st) E) : VE p l e R s m args below meth c cells slots Q nL w (pc) lv (.int y :: .int x :: st) E := fun H locs ls hP hS hL => lv_icmp_lt X.x X.b d ht (fun h => kt h H locs ls hP hS hL) (fun h => kf h H locs ls hP hS hL)
theorem r_icmp_ge (X : Cx p l R s m args meth c cc nL own ret hh w) {x y : Int32} {off : Int} {tgt : Nat} (d : decode cc pc = .ok (.if_icmp .ge off, 3)) (ht : (pc : Int) + off = (tgt : Int)) (kt : y ≤ x → VE p l e R s m args below meth c cells slots Q nL w (tgt) lv (st) E) (kf : ¬ y ≤ x → VE p l e R s m args below meth c cells slots Q nL w (pc + 3) lv (st) E) : VE p l e R s m args below meth c cells slots Q nL w (pc) lv (.int y :: .int x :: st) E := fun H locs ls hP hS hL => lv_icmp_ge X.x X.b d ht (fun h => kt h H locs ls hP hS hL) (fun h => kf h H locs ls hP hS hL)
theorem r_icmp_gt (X : Cx p l R s m args meth c cc nL own ret hh w) {x y : Int32} {off : Int} {tgt : Nat} (d : decode cc pc = .ok (.if_icmp .gt off, 3)) (ht : (pc : Int) + off = (tgt : Int)) (kt : y < x → VE p l e R s m args below meth c cells slots Q nL w (tgt) lv (st) E) (kf : ¬ y < x → VE p l e R s m args below meth c cells slots Q nL w (pc + 3) lv (st) E) : VE p l e R s m args below meth c cells slots Q nL w (pc) lv (.int y :: .int x :: st) E := fun H locs ls hP hS hL => lv_icmp_gt X.x X.b d ht (fun h => kt h H locs ls hP hS hL) (fun h => kf h H locs ls hP hS hL)
theorem r_icmp_le (X : Cx p l R s m args meth c cc nL own ret hh w) {x y : Int32} {off : Int} {tgt : Nat} (d : decode cc pc = .ok (.if_icmp .le off, 3)) (ht : (pc : Int) + off = (tgt : Int)) (kt : x ≤ y → VE p l e R s m args below meth c cells slots Q nL w (tgt) lv (st) E) (kf : ¬ x ≤ y → VE p l e R s m args below meth c cells slots Q nL w (pc + 3) lv (st) E) : VE p l e R s m args below meth c cells slots Q nL w (pc) lv (.int y :: .int x :: st) E := fun H locs ls hP hS hL => lv_icmp_le X.x X.b d ht (fun h => kt h H locs ls hP hS hL) (fun h => kf h H locs ls hP hS hL)
theorem r_icmpn_eq (X : Cx p l R s m args meth c cc nL own ret hh w) {a b : Nat} {off : Int} {tgt : Nat} (d : decode cc pc = .ok (.if_icmp .eq off, 3)) (ht : (pc : Int) + off = (tgt : Int)) (ha : a < 2 ^ 31) (hb : b < 2 ^ 31) (kt : a = b → VE p l e R s m args below meth c cells slots Q nL w (tgt) lv (st) E) (kf : a ≠ b → VE p l e R s m args below meth c cells slots Q nL w (pc + 3) lv (st) E) : VE p l e R s m args below meth c cells slots Q nL w (pc) lv (.int (nI b) :: .int (nI a) :: st) E := r_icmp_eq X d ht (fun h => kt ((nI_eq ha hb).mp h)) (fun h => kf (fun z => h ((nI_eq ha hb).mpr z)))
theorem r_icmpn_ne (X : Cx p l R s m args meth c cc nL own ret hh w) {a b : Nat} {off : Int} {tgt : Nat} (d : decode cc pc = .ok (.if_icmp .ne off, 3)) (ht : (pc : Int) + off = (tgt : Int)) (ha : a < 2 ^ 31) (hb : b < 2 ^ 31) (kt : a ≠ b → VE p l e R s m args below meth c cells slots Q nL w (tgt) lv (st) E) (kf : a = b → VE p l e R s m args below meth c cells slots Q nL w (pc + 3) lv (st) E) : VE p l e R s m args below meth c cells slots Q nL w (pc) lv (.int (nI b) :: .int (nI a) :: st) E := r_icmp_ne X d ht (fun h => kt (fun z => h ((nI_eq ha hb).mpr z))) (fun h => kf ((nI_eq ha hb).mp h))
theorem r_icmpn_lt (X : Cx p l R s m args meth c cc nL own ret hh w) {a b : Nat} {off : Int} {tgt : Nat} (d : decode cc pc = .ok (.if_icmp .lt off, 3)) (ht : (pc : Int) + off = (tgt : Int)) (ha : a < 2 ^ 31) (hb : b < 2 ^ 31) (kt : a < b → VE p l e R s m args below meth c cells slots Q nL w (tgt) lv (st) E) (kf : b ≤ a → VE p l e R s m args below meth c cells slots Q nL w (pc + 3) lv (st) E) : VE p l e R s m args below meth c cells slots Q nL w (pc) lv (.int (nI b) :: .int (nI a) :: st) E := r_icmp_lt X d ht (fun h => kt ((nI_ltI ha hb).mp h)) (fun h => kf (Nat.not_lt.mp (fun z => h ((nI_ltI ha hb).mpr z))))
theorem r_icmpn_ge (X : Cx p l R s m args meth c cc nL own ret hh w) {a b : Nat} {off : Int} {tgt : Nat} (d : decode cc pc = .ok (.if_icmp .ge off, 3)) (ht : (pc : Int) + off = (tgt : Int)) (ha : a < 2 ^ 31) (hb : b < 2 ^ 31) (kt : b ≤ a → VE p l e R s m args below meth c cells slots Q nL w (tgt) lv (st) E) (kf : a < b → VE p l e R s m args below meth c cells slots Q nL w (pc + 3) lv (st) E) : VE p l e R s m args below meth c cells slots Q nL w (pc) lv (.int (nI b) :: .int (nI a) :: st) E := r_icmp_ge X d ht (fun h => kt ((nI_leI hb ha).mp h)) (fun h => kf (Nat.not_le.mp (fun z => h ((nI_leI hb ha).mpr z))))
theorem r_icmpn_gt (X : Cx p l R s m args meth c cc nL own ret hh w) {a b : Nat} {off : Int} {tgt : Nat} (d : decode cc pc = .ok (.if_icmp .gt off, 3)) (ht : (pc : Int) + off = (tgt : Int)) (ha : a < 2 ^ 31) (hb : b < 2 ^ 31) (kt : b < a → VE p l e R s m args below meth c cells slots Q nL w (tgt) lv (st) E) (kf : a ≤ b → VE p l e R s m args below meth c cells slots Q nL w (pc + 3) lv (st) E) : VE p l e R s m args below meth c cells slots Q nL w (pc) lv (.int (nI b) :: .int (nI a) :: st) E := r_icmp_gt X d ht (fun h => kt ((nI_ltI hb ha).mp h)) (fun h => kf (Nat.not_lt.mp (fun z => h ((nI_ltI hb ha).mpr z))))
theorem r_icmpn_le (X : Cx p l R s m args meth c cc nL own ret hh w) {a b : Nat} {off : Int} {tgt : Nat} (d : decode cc pc = .ok (.if_icmp .le off, 3)) (ht : (pc : Int) + off = (tgt : Int)) (ha : a < 2 ^ 31) (hb : b < 2 ^ 31) (kt : a ≤ b → VE p l e R s m args below meth c cells slots Q nL w (tgt) lv (st) E) (kf : b < a → VE p l e R s m args below meth c cells slots Q nL w (pc + 3) lv (st) E) : VE p l e R s m args below meth c cells slots Q nL w (pc) lv (.int (nI b) :: .int (nI a) :: st) E := r_icmp_le X d ht (fun h => kt ((nI_leI ha hb).mp h)) (fun h => kf (Nat.not_le.mp (fun z => h ((nI_leI ha hb).mpr z))))
theorem r_icmpr_eq (X : Cx p l R s m args meth c cc nL own ret hh w) {a b : Nat} {x y : Int32} {off : Int} {tgt : Nat} (d : decode cc pc = .ok (.if_icmp .eq off, 3)) (ht : (pc : Int) + off = (tgt : Int)) (hx : x = nI a) (hy : y = nI b) (ha : a < 2 ^ 31) (hb : b < 2 ^ 31) (kt : a = b → VE p l e R s m args below meth c cells slots Q nL w (tgt) lv (st) E) (kf : a ≠ b → VE p l e R s m args below meth c cells slots Q nL w (pc + 3) lv (st) E) : VE p l e R s m args below meth c cells slots Q nL w (pc) lv (.int y :: .int x :: st) E := by
  subst hx
  subst hy
  exact r_icmpn_eq X d ht ha hb kt kf
theorem r_icmpr_ne (X : Cx p l R s m args meth c cc nL own ret hh w) {a b : Nat} {x y : Int32} {off : Int} {tgt : Nat} (d : decode cc pc = .ok (.if_icmp .ne off, 3)) (ht : (pc : Int) + off = (tgt : Int)) (hx : x = nI a) (hy : y = nI b) (ha : a < 2 ^ 31) (hb : b < 2 ^ 31) (kt : a ≠ b → VE p l e R s m args below meth c cells slots Q nL w (tgt) lv (st) E) (kf : a = b → VE p l e R s m args below meth c cells slots Q nL w (pc + 3) lv (st) E) : VE p l e R s m args below meth c cells slots Q nL w (pc) lv (.int y :: .int x :: st) E := by
  subst hx
  subst hy
  exact r_icmpn_ne X d ht ha hb kt kf
theorem r_icmpr_lt (X : Cx p l R s m args meth c cc nL own ret hh w) {a b : Nat} {x y : Int32} {off : Int} {tgt : Nat} (d : decode cc pc = .ok (.if_icmp .lt off, 3)) (ht : (pc : Int) + off = (tgt : Int)) (hx : x = nI a) (hy : y = nI b) (ha : a < 2 ^ 31) (hb : b < 2 ^ 31) (kt : a < b → VE p l e R s m args below meth c cells slots Q nL w (tgt) lv (st) E) (kf : b ≤ a → VE p l e R s m args below meth c cells slots Q nL w (pc + 3) lv (st) E) : VE p l e R s m args below meth c cells slots Q nL w (pc) lv (.int y :: .int x :: st) E := by
  subst hx
  subst hy
  exact r_icmpn_lt X d ht ha hb kt kf
theorem r_icmpr_ge (X : Cx p l R s m args meth c cc nL own ret hh w) {a b : Nat} {x y : Int32} {off : Int} {tgt : Nat} (d : decode cc pc = .ok (.if_icmp .ge off, 3)) (ht : (pc : Int) + off = (tgt : Int)) (hx : x = nI a) (hy : y = nI b) (ha : a < 2 ^ 31) (hb : b < 2 ^ 31) (kt : b ≤ a → VE p l e R s m args below meth c cells slots Q nL w (tgt) lv (st) E) (kf : a < b → VE p l e R s m args below meth c cells slots Q nL w (pc + 3) lv (st) E) : VE p l e R s m args below meth c cells slots Q nL w (pc) lv (.int y :: .int x :: st) E := by
  subst hx
  subst hy
  exact r_icmpn_ge X d ht ha hb kt kf
theorem r_icmpr_gt (X : Cx p l R s m args meth c cc nL own ret hh w) {a b : Nat} {x y : Int32} {off : Int} {tgt : Nat} (d : decode cc pc = .ok (.if_icmp .gt off, 3)) (ht : (pc : Int) + off = (tgt : Int)) (hx : x = nI a) (hy : y = nI b) (ha : a < 2 ^ 31) (hb : b < 2 ^ 31) (kt : b < a → VE p l e R s m args below meth c cells slots Q nL w (tgt) lv (st) E) (kf : a ≤ b → VE p l e R s m args below meth c cells slots Q nL w (pc + 3) lv (st) E) : VE p l e R s m args below meth c cells slots Q nL w (pc) lv (.int y :: .int x :: st) E := by
  subst hx
  subst hy
  exact r_icmpn_gt X d ht ha hb kt kf
theorem r_icmpr_le (X : Cx p l R s m args meth c cc nL own ret hh w) {a b : Nat} {x y : Int32} {off : Int} {tgt : Nat} (d : decode cc pc = .ok (.if_icmp .le off, 3)) (ht : (pc : Int) + off = (tgt : Int)) (hx : x = nI a) (hy : y = nI b) (ha : a < 2 ^ 31) (hb : b < 2 ^ 31) (kt : a ≤ b → VE p l e R s m args below meth c cells slots Q nL w (tgt) lv (st) E) (kf : b < a → VE p l e R s m args below meth c cells slots Q nL w (pc + 3) lv (st) E) : VE p l e R s m args below meth c cells slots Q nL w (pc) lv (.int y :: .int x :: st) E := by
  subst hx
  subst hy
  exact r_icmpn_le X d ht ha hb kt kf
theorem r_ifb_eq (X : Cx p l R s m args meth c cc nL own ret hh w) {b : Bool} {off : Int} {tgt : Nat} (d : decode cc pc = .ok (.ifCond .eq off, 3)) (ht : (pc : Int) + off = (tgt : Int)) (kt : b = false → VE p l e R s m args below meth c cells slots Q nL w (tgt) lv (st) E) (kf : b = true → VE p l e R s m args below meth c cells slots Q nL w (pc + 3) lv (st) E) : VE p l e R s m args below meth c cells slots Q nL w (pc) lv (.int (bi b) :: st) E := r_if_eq X d ht (fun h => kt (by cases b <;> simp_all [bi])) (fun h => kf (by cases b <;> simp_all [bi]))
theorem r_ifb_ne (X : Cx p l R s m args meth c cc nL own ret hh w) {b : Bool} {off : Int} {tgt : Nat} (d : decode cc pc = .ok (.ifCond .ne off, 3)) (ht : (pc : Int) + off = (tgt : Int)) (kt : b = true → VE p l e R s m args below meth c cells slots Q nL w (tgt) lv (st) E) (kf : b = false → VE p l e R s m args below meth c cells slots Q nL w (pc + 3) lv (st) E) : VE p l e R s m args below meth c cells slots Q nL w (pc) lv (.int (bi b) :: st) E := r_if_ne X d ht (fun h => kt (by cases b <;> simp_all [bi])) (fun h => kf (by cases b <;> simp_all [bi]))
theorem r_iincn (X : Cx p l R s m args meth c cc nL own ret hh w) {i a : Nat} {lv2 : List (Option Value)} (d : decode cc pc = .ok (.iinc i 1, 3)) (hx : lv[i]? = some (some (.int (nI a)))) (hn : i < nL) (hl : lv.set i (some (.int (nI (a + 1)))) = lv2) (k : VE p l e R s m args below meth c cells slots Q nL w (pc + 3) lv2 (st) E) (hq : c1at lv i = true := by rfl) : VE p l e R s m args below meth c cells slots Q nL w (pc) lv (st) E := r_iinc X d hx (nI_1 a) hn hl k hq
theorem r_iinc1 (X : Cx p l R s m args meth c cc nL own ret hh w) {i : Nat} {x : Int32} {lv2 : List (Option Value)} (d : decode cc pc = .ok (.iinc i 1, 3)) (hx : lv[i]? = some (some (.int x))) (hn : i < nL) (hl : lv.set i (some (.int (x + nI 1))) = lv2) (k : VE p l e R s m args below meth c cells slots Q nL w (pc + 3) lv2 (st) E) (hq : c1at lv i = true := by rfl) : VE p l e R s m args below meth c cells slots Q nL w (pc) lv (st) E := r_iinc X d hx rfl hn hl k hq
theorem r_ldc (X : Cx p l R s m args meth c cc nL own ret hh w) {index : Nat} {v : Int32} (hw : Cond.constant own index v ∈ lw_tb2) (hg : gw (Cond.constant own index v) = true) (d : decode cc pc = .ok (.ldc index, 2)) (k : VE p l e R s m args below meth c cells slots Q nL w (pc + 2) lv (.int v :: st) E) : VE p l e R s m args below meth c cells slots Q nL w (pc) lv (st) E := fun H locs ls hP hS hL => lv_ldc X.x X.b X.ow (X.wd hw hg) d (k H locs ls hP hS hL)
end RowsV
