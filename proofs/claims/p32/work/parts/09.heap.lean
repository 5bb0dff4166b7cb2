/-! ROWS OF THE HEAP, OF CALLS, OF ENDS -/
section RowsH
variable {p : Program} {l : Launch} {e : Env} {R : Room} {s : State} {m : MethodId} {args : Array Value} {below : List Frame} {meth : Method} {c : Code} {cells slots : Nat} {Q : State → Prop} {cc : ByteArray} {nL : Nat} {own : String} {ret : Option FieldType} {hh : List (Nat × Nat × Nat × Nat)} {w : Wo} {pc : Nat} {lv : List (Option Value)} {st : List Value} {E : Nat × Nat → va_E}
/-- a class of the claim, by its number in vwCl -/
def KC (ci : Nat) (C : String) (T : u_T) (N : Nat) (ty : Nat → FieldType) : Prop := vwCl[ci]? = some (C, T, N) ∧ (∀ q ∈ u_ws C T N, q ∈ lw_tb2 ∧ gw q = true) ∧ (∀ j, j < N → (T j).1 = C) ∧ (∀ k, k < N → parseFieldDescriptor (T k).2.2.1 = some (ty k)) ∧ (∀ a, a < N → ∀ b, b < N → a ≠ b → (T a).2.1 ≠ (T b).2.1)
theorem kc0 : KC 0 RX0 TX0 13 tyX0 := ⟨rfl, by decide +kernel, by decide +kernel, tyX0_ok, nmX0⟩
theorem kc1 : KC 1 RX1 TX1 8 tyX1 := ⟨rfl, by decide +kernel, by decide +kernel, tyX1_ok, nmX1⟩
theorem kc2 : KC 2 RX2 TX2 10 tyX2 := ⟨rfl, by decide +kernel, by decide +kernel, tyX2_ok, nmX2⟩
theorem kc3 : KC 3 RX3 TX3 1 tyX3 := ⟨rfl, by decide +kernel, by decide +kernel, tyX3_ok, nmX3⟩
theorem r_get (X : Cx p l R s m args meth c cc nL own ret hh w) {key : Nat × Nat} {index j ci N : Nat} {C : String} {T : u_T} {ty : Nat → FieldType} {fs : List Value} {v : Value} (kc : KC ci C T N ty) (hk : key ∈ w.2.1) (hE : E key = .inr (ci, fs)) (hj : j < N) (hv : fs[j]? = some v) (hw : Cond.fieldLink own index C (T j).2.1 (T j).2.2.1 ∈ lw_tb2) (d : decode cc pc = .ok (.getfield index, 3)) (k : VE p l e R s m args below meth c cells slots Q nL w (pc + 3) lv (v :: st) E) : VE p l e R s m args below meth c cells slots Q nL w (pc) lv (.ref (w.1 key) :: st) E := fun H locs ls hP hS hL => by
  obtain ⟨q0, hq⟩ := WL_in hk
  exact va_get X.x X.b (Ts := u_ws C T N) (fun q h => X.wd (kc.2.1 q h).1 (kc.2.1 q h).2) (fun q h => h) X.ow X.k hP q0 (by rw [WL_get hq, hE]) kc.1 j hj (X.wd hw rfl) (by rw [kc.2.2.1 j hj]; exact fun x h => h) hv d (k H locs ls hP hS hL)
theorem r_put (X : Cx p l R s m args meth c cc nL own ret hh w) {key : Nat × Nat} {index j ci N : Nat} {C : String} {T : u_T} {ty : Nat → FieldType} {fs : List Value} {v : Value} {E2 : Nat × Nat → va_E} (kc : KC ci C T N ty) (hk : key ∈ w.2.1) (hE : E key = .inr (ci, fs)) (hj : j < N) (hl : j < fs.length) (hw : Cond.fieldLink own index C (T j).2.1 (T j).2.2.1 ∈ lw_tb2) (hfin : (T j).2.2.2 = false) (hn : narrow (ty j) v = v) (hfit : fits (ty j) v = true) (d : decode cc pc = .ok (.putfield index, 3)) (he : eset E key (.inr (ci, fs.set j v)) = E2) (k : VE p l e R s m args below meth c cells slots Q nL w (pc + 3) lv (st) E2) : VE p l e R s m args below meth c cells slots Q nL w (pc) lv (v :: .ref (w.1 key) :: st) E := fun H locs ls hP hS hL => by
  obtain ⟨q0, hq⟩ := WL_in hk
  refine va_put X.x X.b (Ts := u_ws C T N) (fun q h => X.wd (kc.2.1 q h).1 (kc.2.1 q h).2) (fun q h => h) ty kc.2.2.2.1 kc.2.2.2.2 X.ow X.k hP (WD X.wi s.heap.size E) hS q0 (by rw [WL_get hq, hE]) kc.1 j hj (X.wd hw rfl) (by rw [kc.2.2.1 j hj]; exact fun x h => h) hfin (kc.2.2.2.1 j hj) hn hfit hl d (fun H1 locs1 hP1 hD1 hS1 => k H1 locs1 ls ?_ hS1 hL)
  rw [WL_set X.wi hq, he] at hP1
  exact hP1
theorem r_getN (X : Cx p l R s m args meth c cc nL own ret hh w) {key : Nat × Nat} {index j ci N : Nat} {C : String} {T : u_T} {ty : Nat → FieldType} {fs : List Value} {v : Value} {host : String} (kc : KC ci C T N ty) (hk : key ∈ w.2.1) (hE : E key = .inr (ci, fs)) (hj : j < N) (hv : fs[j]? = some v) (hw : Cond.fieldLinkNest own index C (T j).2.1 (T j).2.2.1 host ∈ lw_tb2) (d : decode cc pc = .ok (.getfield index, 3)) (k : VE p l e R s m args below meth c cells slots Q nL w (pc + 3) lv (v :: st) E) : VE p l e R s m args below meth c cells slots Q nL w (pc) lv (.ref (w.1 key) :: st) E := fun H locs ls hP hS hL => by
  obtain ⟨q0, hq⟩ := WL_in hk
  exact va_getN X.x X.b (Ts := u_ws C T N) (fun q h => X.wd (kc.2.1 q h).1 (kc.2.1 q h).2) (fun q h => h) X.ow X.k hP q0 (by rw [WL_get hq, hE]) kc.1 j hj (X.wd hw rfl) (by rw [kc.2.2.1 j hj]; exact fun x h => h) hv d (k H locs ls hP hS hL)
theorem r_putN (X : Cx p l R s m args meth c cc nL own ret hh w) {key : Nat × Nat} {index j ci N : Nat} {C : String} {T : u_T} {ty : Nat → FieldType} {fs : List Value} {v : Value} {host : String} {E2 : Nat × Nat → va_E} (kc : KC ci C T N ty) (hk : key ∈ w.2.1) (hE : E key = .inr (ci, fs)) (hj : j < N) (hl : j < fs.length) (hw : Cond.fieldLinkNest own index C (T j).2.1 (T j).2.2.1 host ∈ lw_tb2) (hfin : (T j).2.2.2 = false) (hn : narrow (ty j) v = v) (hfit : fits (ty j) v = true) (d : decode cc pc = .ok (.putfield index, 3)) (he : eset E key (.inr (ci, fs.set j v)) = E2) (k : VE p l e R s m args below meth c cells slots Q nL w (pc + 3) lv (st) E2) : VE p l e R s m args below meth c cells slots Q nL w (pc) lv (v :: .ref (w.1 key) :: st) E := fun H locs ls hP hS hL => by
  obtain ⟨q0, hq⟩ := WL_in hk
  refine va_putN X.x X.b (Ts := u_ws C T N) (fun q h => X.wd (kc.2.1 q h).1 (kc.2.1 q h).2) (fun q h => h) ty kc.2.2.2.1 kc.2.2.2.2 X.ow X.k hP (WD X.wi s.heap.size E) hS q0 (by rw [WL_get hq, hE]) kc.1 j hj (X.wd hw rfl) (by rw [kc.2.2.1 j hj]; exact fun x h => h) hfin (kc.2.2.2.1 j hj) hn hfit hl d (fun H1 locs1 hP1 hD1 hS1 => k H1 locs1 ls ?_ hS1 hL)
  rw [WL_set X.wi hq, he] at hP1
  exact hP1
theorem r_iald (X : Cx p l R s m args meth c cc nL own ret hh w) {key : Nat × Nat} {n j : Nat} {f : Nat → Int32} {x : Int32} (hk : key ∈ w.2.1) (hE : E key = .inl (w.2.2.2.1 0, (n, .inl f))) (hx : x = nI j) (hj : j < n) (hn : n < 2 ^ 31) (d : decode cc pc = .ok (.iaload, 1)) (k : VE p l e R s m args below meth c cells slots Q nL w (pc + 1) lv (.int (f j) :: st) E) : VE p l e R s m args below meth c cells slots Q nL w (pc) lv (.int x :: .ref (w.1 key) :: st) E := fun H locs ls hP hS hL => by
  obtain ⟨q0, hq⟩ := WL_in hk
  subst hx
  refine va_iald X.x X.b X.k hP q0 0 (by rw [WL_get hq, hE]) rfl (vp_in_nI hj hn) d ?_
  rw [nI_clamp (Nat.lt_trans hj hn)]
  exact k H locs ls hP hS hL
theorem r_cald (X : Cx p l R s m args meth c cc nL own ret hh w) {key : Nat × Nat} {n j : Nat} {f : Nat → Int32} {x : Int32} (hk : key ∈ w.2.1) (hE : E key = .inl (w.2.2.2.1 2, (n, .inl f))) (hx : x = nI j) (hj : j < n) (hn : n < 2 ^ 31) (d : decode cc pc = .ok (.caload, 1)) (k : VE p l e R s m args below meth c cells slots Q nL w (pc + 1) lv (.int (f j) :: st) E) : VE p l e R s m args below meth c cells slots Q nL w (pc) lv (.int x :: .ref (w.1 key) :: st) E := fun H locs ls hP hS hL => by
  obtain ⟨q0, hq⟩ := WL_in hk
  subst hx
  refine va_cald X.x X.b X.k hP q0 2 (by rw [WL_get hq, hE]) rfl (vp_in_nI hj hn) d ?_
  rw [nI_clamp (Nat.lt_trans hj hn)]
  exact k H locs ls hP hS hL
theorem r_iast (X : Cx p l R s m args meth c cc nL own ret hh w) {key : Nat × Nat} {n j : Nat} {f : Nat → Int32} {x v v2 : Int32} {E2 : Nat × Nat → va_E} (hk : key ∈ w.2.1) (hE : E key = .inl (w.2.2.2.1 0, (n, .inl f))) (hx : x = nI j) (hj : j < n) (hn : n < 2 ^ 31) (hv : v = v2) (d : decode cc pc = .ok (.iastore, 1)) (he : eset E key (.inl (w.2.2.2.1 0, (n, .inl (upd f j v2)))) = E2) (k : VE p l e R s m args below meth c cells slots Q nL w (pc + 1) lv (st) E2) : VE p l e R s m args below meth c cells slots Q nL w (pc) lv (.int v :: .int x :: .ref (w.1 key) :: st) E := fun H locs ls hP hS hL => by
  obtain ⟨q0, hq⟩ := WL_in hk
  subst hx
  refine va_iast X.x X.b X.k hP (WD X.wi s.heap.size E) hS q0 0 (by rw [WL_get hq, hE]) rfl (vp_in_nI hj hn) d (fun H1 locs1 hP1 hD1 hS1 => k H1 locs1 ls ?_ hS1 hL)
  rw [nI_clamp (Nat.lt_trans hj hn), WL_set X.wi hq, hv, he] at hP1
  exact hP1
theorem r_cast (X : Cx p l R s m args meth c cc nL own ret hh w) {key : Nat × Nat} {n j : Nat} {f : Nat → Int32} {x v v2 : Int32} {E2 : Nat × Nat → va_E} (hk : key ∈ w.2.1) (hE : E key = .inl (w.2.2.2.1 2, (n, .inl f))) (hx : x = nI j) (hj : j < n) (hn : n < 2 ^ 31) (hv : (vp_nar .char v) = v2) (d : decode cc pc = .ok (.castore, 1)) (he : eset E key (.inl (w.2.2.2.1 2, (n, .inl (upd f j v2)))) = E2) (k : VE p l e R s m args below meth c cells slots Q nL w (pc + 1) lv (st) E2) : VE p l e R s m args below meth c cells slots Q nL w (pc) lv (.int v :: .int x :: .ref (w.1 key) :: st) E := fun H locs ls hP hS hL => by
  obtain ⟨q0, hq⟩ := WL_in hk
  subst hx
  refine va_cast X.x X.b X.k hP (WD X.wi s.heap.size E) hS q0 2 (by rw [WL_get hq, hE]) rfl (vp_in_nI hj hn) d (fun H1 locs1 hP1 hD1 hS1 => k H1 locs1 ls ?_ hS1 hL)
  rw [nI_clamp (Nat.lt_trans hj hn), WL_set X.wi hq, hv, he] at hP1
  exact hP1
theorem r_lald (X : Cx p l R s m args meth c cc nL own ret hh w) {key : Nat × Nat} {n j : Nat} {f : Nat → Int64} {x : Int32} (hk : key ∈ w.2.1) (hE : E key = .inl (w.2.2.2.1 3, (n, .inr (.inl f)))) (hx : x = nI j) (hj : j < n) (hn : n < 2 ^ 31) (d : decode cc pc = .ok (.laload, 1)) (k : VE p l e R s m args below meth c cells slots Q nL w (pc + 1) lv (.long (f j) :: st) E) : VE p l e R s m args below meth c cells slots Q nL w (pc) lv (.int x :: .ref (w.1 key) :: st) E := fun H locs ls hP hS hL => by
  obtain ⟨q0, hq⟩ := WL_in hk
  subst hx
  refine va_lald X.x X.b X.k hP q0 3 (by rw [WL_get hq, hE]) rfl (vp_in_nI hj hn) d ?_
  rw [nI_clamp (Nat.lt_trans hj hn)]
  exact k H locs ls hP hS hL
theorem r_aald (X : Cx p l R s m args meth c cc nL own ret hh w) {key : Nat × Nat} {n j t0 y : Nat} {C : String} {f : Nat → Option Nat} {x : Int32} (hk : key ∈ w.2.1) (ht : (tyl w.2.2.2.1)[t0]? = some (w.2.2.2.1 t0, .object C)) (hE : E key = .inl (w.2.2.2.1 t0, (n, .inr (.inr (.inr (.inr f)))))) (hx : x = nI j) (hj : j < n) (hn : n < 2 ^ 31) (hy : f j = some y) (d : decode cc pc = .ok (.aaload, 1)) (k : VE p l e R s m args below meth c cells slots Q nL w (pc + 1) lv (.ref y :: st) E) : VE p l e R s m args below meth c cells slots Q nL w (pc) lv (.int x :: .ref (w.1 key) :: st) E := fun H locs ls hP hS hL => by
  obtain ⟨q0, hq⟩ := WL_in hk
  subst hx
  refine va_aldq X.x X.b X.k hP q0 t0 (by rw [WL_get hq, hE]) ht (vp_in_nI hj hn) d ?_
  rw [nI_clamp (Nat.lt_trans hj hn), hy]
  exact k H locs ls hP hS hL
theorem r_alen (X : Cx p l R s m args meth c cc nL own ret hh w) {key : Nat × Nat} {t0 : Nat} {ty : FieldType} {x : vp_A} {v : Int32} (hk : key ∈ w.2.1) (ht : (tyl w.2.2.2.1)[t0]? = some (w.2.2.2.1 t0, ty)) (hE : E key = .inl (w.2.2.2.1 t0, x)) (hv : Int32.ofNat x.1 = v) (d : decode cc pc = .ok (.arraylength, 1)) (k : VE p l e R s m args below meth c cells slots Q nL w (pc + 1) lv (.int v :: st) E) : VE p l e R s m args below meth c cells slots Q nL w (pc) lv (.ref (w.1 key) :: st) E := fun H locs ls hP hS hL => by
  obtain ⟨q0, hq⟩ := WL_in hk
  exact va_alen X.x X.b X.k hP q0 t0 (by rw [WL_get hq, hE]) ht hv d (k H locs ls hP hS hL)
theorem r_max (X : Cx p l R s m args meth c cc nL own ret hh w) {index : Nat} {x y : Int32} (hw : Cond.methodLink own index Lib.Math.max.name ∈ lw_tb2) (hcat : (st.map fun v => v.category).sum + 13 ≤ R.locals) (hf : 1 ≤ R.frames) (hc : cells ≤ R.cells) (hs : slots ≤ R.slots) (d : decode cc pc = .ok (.invokestatic index, 3)) (k : VE p l e R s m args below meth c cells slots Q nL w (pc + 3) lv (.int (if x < y then y else x) :: st) E) : VE p l e R s m args below meth c cells slots Q nL w (pc) lv (.int y :: .int x :: st) E := fun H locs ls hP hS hL =>
  va_mmax X.x X.b (by rw [X.ml, hL.1]) X.ow (X.wd hw rfl) (X.wd (by decide +kernel) rfl) (X.wd (by decide +kernel) rfl) (X.wd (by decide +kernel) rfl) hf hcat hc hs d (k H locs ls hP hS hL)
theorem r_copy (X : Cx p l R s m args meth c cc nL own ret hh w) {key key0 : Nat × Nat} {index n0 n1 : Nat} {f g : Nat → Int32} {sp dp n : Int32} {E2 : Nat × Nat → va_E} (hk0 : key0 ∈ w.2.1) (hk : key ∈ w.2.1) (hE0 : E key0 = .inl (w.2.2.2.1 0, (n0, .inl f))) (hE : E key = .inl (w.2.2.2.1 0, (n1, .inl g))) (hw : Cond.methodLink own index arraycopyName ∈ lw_tb2) (h1 : ¬ sp < 0) (h2 : ¬ dp < 0) (h3 : ¬ n < 0) (h4 : sp.toNatClampNeg + n.toNatClampNeg ≤ n0) (h5 : dp.toNatClampNeg + n.toNatClampNeg ≤ n1) (hf : 1 ≤ R.frames) (hcat : (st.map fun v => v.category).sum + (nativeFrameWords "java/lang/System" "arraycopy" 5 + 11) ≤ R.locals) (d : decode cc pc = .ok (.invokestatic index, 3)) (he : eset E key (.inl (w.2.2.2.1 0, (n1, .inl (va_cpy f g sp.toNatClampNeg dp.toNatClampNeg n.toNatClampNeg)))) = E2) (k : VE p l e R s m args below meth c cells slots Q nL w (pc + 3) lv (st) E2) : VE p l e R s m args below meth c cells slots Q nL w (pc) lv (.int n :: .int dp :: .ref (w.1 key) :: .int sp :: .ref (w.1 key0) :: st) E := fun H locs ls hP hS hL => by
  obtain ⟨q0, hq0⟩ := WL_in hk0
  obtain ⟨q1, hq1⟩ := WL_in hk
  refine va_copyi X.x X.b (by rw [X.ml, hL.1]) X.ow (X.wd hw rfl) (X.wd (by decide +kernel) rfl) (X.wd (by decide +kernel) rfl) (X.wd (by decide +kernel) rfl) X.k hP (WD X.wi s.heap.size E) hS q0 q1 0 0 (by rw [WL_get hq0, hE0]) (by rw [WL_get hq1, hE]) rfl rfl rfl h1 h2 h3 h4 h5 (fun i hi => rfl) hf hcat d (fun H1 locs1 hP1 hD1 hS1 => k H1 locs1 ls ?_ hS1 hL)
  rw [WL_set X.wi hq1, he] at hP1
  exact hP1
-- ===== ends =====
def QV (w : Wo) (o : Oc) (below : List Frame) (args : Array Value) (s : State) (mc ms : Nat) : State → Prop := vx_MQ below (fun _ st oc t => o.1 = none ∧ oc = .returned o.2.1 ∧ WH w (ev w o.2.2.1 o.2.2.2) t.heap ∧ va_F (AA w s.heap.size) st t) (fun X st t => o.1 = some X ∧ WH w (ev w o.2.2.1 o.2.2.2) t.heap ∧ va_F (AA w s.heap.size) st t) args s mc ms (AA w s.heap.size)

theorem r_iret (X : Cx p l R s m args meth c cc nL own (some .int) hh w) {mc ms : Nat} {M : Mem} {G : Lng} {v : Int32} (d : decode cc pc = .ok (.ireturn, 1))  (hc : cells ≤ mc) (hs : slots ≤ ms) {o : Oc} (ho : o = okO (some (.int v)) M G) : VE p l e R s m args below meth c cells slots (QV w o below args s mc ms) nL w pc lv [.int v] (ev w M G) := fun H locs ls hP hS hL => by
  subst ho
  exact W.widen hc hs (vx_ret (W.iret X.x X.b X.rt  (fun t ht hW => ⟨rfl, rfl, (by rw [ht]; exact hP), hS.F ht⟩) hS.2.2 d X.lk))
theorem r_zret (X : Cx p l R s m args meth c cc nL own (some .boolean) hh w) {mc ms : Nat} {M : Mem} {G : Lng} {b : Bool} {v : Int32} (d : decode cc pc = .ok (.ireturn, 1)) (hc : cells ≤ mc) (hs : slots ≤ ms) {o : Oc} (ho : o = okO (some (.int (bi b))) M G) (hv : v = bi b) : VE p l e R s m args below meth c cells slots (QV w o below args s mc ms) nL w pc lv [.int v] (ev w M G) := fun H locs ls hP hS hL => by
  subst ho
  subst hv
  exact W.widen hc hs (vx_ret (W.zret X.x X.b X.rt (by cases b <;> rfl) (fun t ht hW => ⟨rfl, rfl, (by rw [ht]; exact hP), hS.F ht⟩) hS.2.2 d X.lk))
theorem r_cret (X : Cx p l R s m args meth c cc nL own (some .char) hh w) {mc ms : Nat} {M : Mem} {G : Lng} {v : Int32} (d : decode cc pc = .ok (.ireturn, 1)) (hn : narrow .char (.int v) = .int v) (hc : cells ≤ mc) (hs : slots ≤ ms) {o : Oc} (ho : o = okO (some (.int v)) M G) : VE p l e R s m args below meth c cells slots (QV w o below args s mc ms) nL w pc lv [.int v] (ev w M G) := fun H locs ls hP hS hL => by
  subst ho
  exact W.widen hc hs (vx_ret (W.zret X.x X.b X.rt hn (fun t ht hW => ⟨rfl, rfl, (by rw [ht]; exact hP), hS.F ht⟩) hS.2.2 d X.lk))
theorem r_fret (X : Cx p l R s m args meth c cc nL own (some .float) hh w) {mc ms : Nat} {M : Mem} {G : Lng} {v : UInt32} (d : decode cc pc = .ok (.freturn, 1))  (hc : cells ≤ mc) (hs : slots ≤ ms) {o : Oc} (ho : o = okO (some (.float v)) M G) : VE p l e R s m args below meth c cells slots (QV w o below args s mc ms) nL w pc lv [.float v] (ev w M G) := fun H locs ls hP hS hL => by
  subst ho
  exact W.widen hc hs (vx_ret (W.fret X.x X.b X.rt  (fun t ht hW => ⟨rfl, rfl, (by rw [ht]; exact hP), hS.F ht⟩) hS.2.2 d X.lk))
theorem r_lret (X : Cx p l R s m args meth c cc nL own (some .long) hh w) {mc ms : Nat} {M : Mem} {G : Lng} {v : Int64} (d : decode cc pc = .ok (.lreturn, 1))  (hc : cells ≤ mc) (hs : slots ≤ ms) {o : Oc} (ho : o = okO (some (.long v)) M G) : VE p l e R s m args below meth c cells slots (QV w o below args s mc ms) nL w pc lv [.long v] (ev w M G) := fun H locs ls hP hS hL => by
  subst ho
  exact W.widen hc hs (vx_ret (W.lret X.x X.b X.rt  (fun t ht hW => ⟨rfl, rfl, (by rw [ht]; exact hP), hS.F ht⟩) hS.2.2 d X.lk))
theorem r_aret {cn : String} (X : Cx p l R s m args meth c cc nL own (some (.object cn)) hh w) {mc ms : Nat} {M : Mem} {G : Lng} {v : Nat} (d : decode cc pc = .ok (.areturn, 1))  (hc : cells ≤ mc) (hs : slots ≤ ms) {o : Oc} (ho : o = okO (some (.ref v)) M G) : VE p l e R s m args below meth c cells slots (QV w o below args s mc ms) nL w pc lv [.ref v] (ev w M G) := fun H locs ls hP hS hL => by
  subst ho
  exact W.widen hc hs (vx_ret (W.aret X.x X.b X.rt (Or.inl ⟨_, rfl⟩) (Or.inr ⟨_, rfl⟩) (fun t ht hW => ⟨rfl, rfl, (by rw [ht]; exact hP), hS.F ht⟩) hS.2.2 d X.lk))
theorem r_vret (X : Cx p l R s m args meth c cc nL own none hh w) {mc ms : Nat} {M : Mem} {G : Lng}  (d : decode cc pc = .ok (.return_, 1))  (hc : cells ≤ mc) (hs : slots ≤ ms) {o : Oc} (ho : o = okO none M G) : VE p l e R s m args below meth c cells slots (QV w o below args s mc ms) nL w pc lv [] (ev w M G) := fun H locs ls hP hS hL => by
  subst ho
  exact W.widen hc hs (vx_ret (W.vret X.x X.b X.rt  (fun t ht hW => ⟨rfl, rfl, (by rw [ht]; exact hP), hS.F ht⟩) hS.2.2 d X.lk))
theorem r_out (X : Cx p l R s m args meth c cc nL own ret [] w) {mc ms : Nat} {M : Mem} {G : Lng} {X9 : String} (hc : cells ≤ mc) (hs : slots ≤ ms) {o : Oc} (ho : o = thO X9 M G) : VX p l e R s m args below meth c cells slots (QV w o below args s mc ms) nL w X9 pc lv st (ev w M G) := fun H locs ls q ce hP hS hL hq hv hcl => by
  subst ho
  refine vx_out (by rw [X.tab]; intro x hx; cases hx) X.lk hq hv hcl (fun t ht hA => ?_) hS.2.2 hc hs
  exact ⟨rfl, (by rw [ht]; exact hP), hS.F ht⟩
end RowsH
