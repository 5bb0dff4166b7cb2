/-! CALLS, THROWS, CONTRACTS -/
section CallsV
def exN : List String := ["java/lang/RuntimeException", "java/lang/Exception"]
variable {p : Program} {l : Launch} {e : Env} {R : Room} {s : State} {m : MethodId} {args : Array Value} {below : List Frame} {meth : Method} {c : Code} {cells slots : Nat} {Q : State → Prop} {cc : ByteArray} {nL : Nat} {own : String} {ret : Option FieldType} {hh : List (Nat × Nat × Nat × Nat)} {w : Wo} {pc : Nat} {lv : List (Option Value)} {st : List Value} {E : Nat × Nat → va_E}
/-- what is owed behind a call of the outcome o -/
def KO (p : Program) (l : Launch) (e : Env) (R : Room) (s : State) (m : MethodId) (args : Array Value) (below : List Frame) (meth : Method) (c : Code) (cells slots : Nat) (Q : State → Prop) (nL : Nat) (w : Wo) (pc : Nat) (lv : List (Option Value)) (rest : List Value) (o : Oc) (mc2 ms2 : Nat) : Prop := (o.1 = none → VE p l e R s m args below meth c (cells + mc2) (slots + ms2) Q nL w (pc + 3) lv (o.2.1.toList ++ rest) (ev w o.2.2.1 o.2.2.2)) ∧ (∀ X9 : String, o.1 = some X9 → VX p l e R s m args below meth c (cells + mc2) (slots + ms2) Q nL w X9 (pc) lv (rest) (ev w o.2.2.1 o.2.2.2))
theorem ko1 {rest : List Value} {mc2 ms2 : Nat} {M : Mem} {G : Lng} {v : Value} (k : VE p l e R s m args below meth c (cells + mc2) (slots + ms2) Q nL w (pc + 3) lv (v :: rest) (ev w M G)) : KO p l e R s m args below meth c cells slots Q nL w pc lv rest (okO (some v) M G) mc2 ms2 := ⟨fun _ => k, fun _ h => nomatch h⟩
theorem ko0 {rest : List Value} {mc2 ms2 : Nat} {M : Mem} {G : Lng} (k : VE p l e R s m args below meth c (cells + mc2) (slots + ms2) Q nL w (pc + 3) lv (rest) (ev w M G)) : KO p l e R s m args below meth c cells slots Q nL w pc lv rest (okO none M G) mc2 ms2 := ⟨fun _ => k, fun _ h => nomatch h⟩
theorem kox {rest : List Value} {mc2 ms2 : Nat} {M : Mem} {G : Lng} {X9 : String} (k : VX p l e R s m args below meth c (cells + mc2) (slots + ms2) Q nL w X9 (pc) lv (rest) (ev w M G)) : KO p l e R s m args below meth c cells slots Q nL w pc lv rest (thO X9 M G) mc2 ms2 := ⟨fun h => (nomatch h), fun Y h => by cases h; exact k⟩
theorem koi {rest : List Value} {mc2 ms2 : Nat} {cb : Bool} {o1 o2 : Oc} (k1 : cb = true → KO p l e R s m args below meth c cells slots Q nL w pc lv rest o1 mc2 ms2) (k2 : cb = false → KO p l e R s m args below meth c cells slots Q nL w pc lv rest o2 mc2 ms2) : KO p l e R s m args below meth c cells slots Q nL w pc lv rest (if cb = true then o1 else o2) mc2 ms2 := by
  cases cb
  · exact k2 rfl
  · exact k1 rfl
theorem run_VE (X : Cx p l R s m args meth c cc nL own ret hh w) {o : Oc} {mc2 ms2 : Nat} {st0 rest : List Value}
    (hr : ∀ (H : Heap) (locs : List Loc) (ls : Array Slot), va_P w.2.2.1 vwCl (WL w E) H → va_S (AA w s.heap.size) s.heap H locs → LV ls nL lv → vx_Run p l e R s m args below meth c H locs cells slots mc2 ms2 (F0 m pc ls st0) rest (fun st oc t => o.1 = none ∧ oc = .returned o.2.1 ∧ WH w (ev w o.2.2.1 o.2.2.2) t.heap ∧ va_F (AA w H.size) st t) (fun X9 st t => o.1 = some X9 ∧ WH w (ev w o.2.2.1 o.2.2.2) t.heap ∧ va_F (AA w H.size) st t) (AA w H.size))
    (k : KO p l e R s m args below meth c cells slots Q nL w pc lv rest o mc2 ms2) : VE p l e R s m args below meth c cells slots Q nL w (pc) lv (st0) E := fun H locs ls hP hS hL => by
  intro T hT X'
  have hA : ∀ q : Nat, AA w H.size q → AA w s.heap.size q := fun q h => h.elim Or.inl (fun z => Or.inr (Nat.le_trans hS.1 z))
  rcases hr H locs ls hP hS hL T hT X' with ⟨v, st₀, t, T', L, h0, X2, hL2, e1, e2, ⟨g1, g2, g3, g4⟩, hst⟩ | ⟨q, st₀, t, T', L, X9, ce, h0, X2, hL2, e1, e2, ⟨g1, g3, g4⟩, hce, hcv, hcl, hst⟩
  · cases g2
    obtain ⟨k1, k2, k3⟩ := vx_keep h0 e1 hS (fun q _ h => hA q h) hA hL2 g4
    obtain ⟨t2, a1, b1⟩ := k.1 g1 T'.heap (locs ++ L) ls (by rw [e1]; exact g3) k3 hL T' rfl X2
    exact ⟨t2, hst t2 a1, b1⟩
  · obtain ⟨k1, k2, k3⟩ := vx_keep h0 e1 hS (fun q _ h => hA q h) hA hL2 g4
    obtain ⟨t2, a1, b1⟩ := k.2 X9 g1 T'.heap (locs ++ L) ls q ce (by rw [e1]; exact g3) k3 hL (by rw [e1]; exact hce) hcv hcl T' rfl X2
    exact ⟨t2, hst.trans a1, b1⟩
theorem CT_blind {av : List Value} {sz : Nat} : FrameBlind (va_Pc av (fun U => U.heap.size = sz ∧ Wd w E U)) := fun a U g mk h => ⟨h.1, h.2.1, h.2.2.1, h.2.2.2.1.same rfl, h.2.2.2.2.move (Vm.Alike.refl U.vm) (Nat.le_refl _) (Nat.le_refl _) (fun _ _ _ => rfl)⟩
theorem Cx.pre (X : Cx p l R s m args meth c cc nL own ret hh w) {av : List Value} {H : Heap} {locs : List Loc} (hP : va_P w.2.2.1 vwCl (WL w E) H) (hS : va_S (AA w s.heap.size) s.heap H locs) (U : State) (hU : U.heap = H) (hW : s.WarmedH U.vm) : va_Pc av (fun U => U.heap.size = H.size ∧ Wd w E U) av.toArray U := by
  subst hU
  exact ⟨rfl, rfl, hP, X.kw.warm hW, X.hz.move hW.alike (Nat.le_refl _) hS.1 (fun a h1 h2 => hS.2.1 a h1 h2)⟩
/-- what the tables say of a method -/
def MWb (y : MethodName) (bytes : ByteArray) (maxL : Nat) (rt : Option FieldType) (n : Nat) : Prop := Cond.code y bytes maxL rt ∈ lw_tb2 ∧ Cond.initialized y.cls ∈ lw_tb2 ∧ (y.cls ≠ "java/lang/invoke/MethodHandle" ∧ y.cls ≠ "java/lang/invoke/VarHandle") ∧ (parseMethodDescriptor y.desc).map (fun d => d.parameters.length) = some n ∧ maxL ≤ 21 ∧ plainName y.cls = true
/-- .. of an instance method called by a receiver of the class C -/
def MWi (y : MethodName) (C : String) : Prop := Cond.instanceMethod y ∈ lw_tb2 ∧ Cond.selects C y y ∈ lw_tb2
theorem MWb.n {y : MethodName} {bytes : ByteArray} {maxL : Nat} {rt : Option FieldType} {n : Nat} (h : MWb y bytes maxL rt n) : ∀ sig, parseMethodDescriptor y.desc = some sig → n = sig.parameters.length := fun sig hs => by
  have h2 := h.2.2.2.1
  rw [hs] at h2
  exact (Option.some.inj h2).symm
section One
variable {y : MethodName} {bytes : ByteArray} {maxL n n2 mc2 ms2 index : Nat} {rt : Option FieldType} {key : Nat × Nat} {ci N : Nat} {C host : String} {T : u_T} {ty : Nat → FieldType} {fs As rest st0 : List Value} {M : Mem} {G : Lng} {o : Oc}
theorem Cx.cb (X : Cx p l R s m args meth c cc nL own ret hh w) (hm : MWb y bytes maxL rt n) (hl : Cond.methodLink own index y ∈ lw_tb2) (hfr : n2 + 1 ≤ R.frames) (hlo : 40 * n2 + 40 ≤ R.locals) : CallB R s args own index y bytes maxL rt [Cond.code y bytes maxL rt] (rmv n2 mc2 ms2) mc2 ms2 n :=
  ⟨rfl, rfl, hfr, by have := hm.2.2.2.2.1; simp only [rmv]; omega, fun w hw a' U hW => by rw [List.mem_singleton.mp hw]; exact word_at hW (Or.inl rfl) (X.wd hm.1 rfl), List.mem_cons_self, X.wd hm.1 rfl, X.wd hm.2.1 rfl, hm.2.2.1, hm.n, X.wd hl rfl⟩
theorem Cx.cn (X : Cx p l R s m args meth c cc nL own ret hh w) (hm : MWb y bytes maxL rt n) (hl : Cond.methodLinkNest own index y host ∈ lw_tb2) (hfr : n2 + 1 ≤ R.frames) (hlo : 40 * n2 + 40 ≤ R.locals) : va_CN R s args own index y host bytes maxL rt [Cond.code y bytes maxL rt] (rmv n2 mc2 ms2) mc2 ms2 n :=
  ⟨⟨rfl, rfl, hfr, by have := hm.2.2.2.2.1; simp only [rmv]; omega, fun w hw a' U hW => by rw [List.mem_singleton.mp hw]; exact word_at hW (Or.inl rfl) (X.wd hm.1 rfl), List.mem_cons_self⟩, X.wd hm.1 rfl, X.wd hm.2.1 rfl, hm.2.2.1, hm.n, X.wd hl rfl⟩
theorem Cx.cf (X : Cx p l R s m args meth c cc nL own ret hh w) : CallFix p m c cc nL s args [] own := ⟨X.x, X.b, X.ml, X.ow, fun w h => absurd h List.not_mem_nil⟩
theorem r_callV (X : Cx p l R s m args meth c cc nL own ret hh w) (hC : CT l y [Cond.code y bytes maxL rt] n2 mc2 ms2 w (.ref (w.1 key) :: As) M G o) (hm : MWb y bytes maxL rt n) (kc : KC ci C T N ty) (hi : MWi y C) (hk : key ∈ w.2.1) (he : ev w M G key = .inr (ci, fs)) (hl : Cond.methodLink own index y ∈ lw_tb2) (hn : As.length = n) (hst : st0 = As.reverse ++ .ref (w.1 key) :: rest) (hcat : (rest.map fun v => v.category).sum ≤ 8) (hfr : n2 + 1 ≤ R.frames) (hlo : 40 * n2 + 40 ≤ R.locals) (hcs : cells + mc2 ≤ R.cells) (hss : slots + ms2 ≤ R.slots) (d : decode cc pc = .ok (.invokevirtual index, 3)) (k : KO p l e R s m args below meth c cells slots Q nL w pc lv rest o mc2 ms2) : VE p l e R s m args below meth c cells slots Q nL w (pc) lv (st0) (ev w M G) := run_VE X (fun H locs ls hP hS hL => by
  obtain ⟨q0, hq⟩ := WL_in hk
  exact vx_runV X.cf (hC H.size) ⟨X.cb hm hl hfr hlo, X.wd hi.1 rfl, X.wd hi.2 rfl⟩ ⟨CT_blind, va_recv X.k hP kc.1 (by rw [WL_get hq, he]), X.pre hP hS⟩ rfl hn hL.1 hst (lv_room hcat) d ⟨hcs, hss⟩) k
theorem r_callVN (X : Cx p l R s m args meth c cc nL own ret hh w) (hC : CT l y [Cond.code y bytes maxL rt] n2 mc2 ms2 w (.ref (w.1 key) :: As) M G o) (hm : MWb y bytes maxL rt n) (kc : KC ci C T N ty) (hi : MWi y C) (hk : key ∈ w.2.1) (he : ev w M G key = .inr (ci, fs)) (hl : Cond.methodLinkNest own index y host ∈ lw_tb2) (hn : As.length = n) (hst : st0 = As.reverse ++ .ref (w.1 key) :: rest) (hcat : (rest.map fun v => v.category).sum ≤ 8) (hfr : n2 + 1 ≤ R.frames) (hlo : 40 * n2 + 40 ≤ R.locals) (hcs : cells + mc2 ≤ R.cells) (hss : slots + ms2 ≤ R.slots) (d : decode cc pc = .ok (.invokevirtual index, 3)) (k : KO p l e R s m args below meth c cells slots Q nL w pc lv rest o mc2 ms2) : VE p l e R s m args below meth c cells slots Q nL w (pc) lv (st0) (ev w M G) := run_VE X (fun H locs ls hP hS hL => by
  obtain ⟨q0, hq⟩ := WL_in hk
  exact vx_runVN X.cf (hC H.size) ⟨X.cn hm hl hfr hlo, X.wd hi.1 rfl, X.wd hi.2 rfl⟩ ⟨CT_blind, va_recv X.k hP kc.1 (by rw [WL_get hq, he]), X.pre hP hS⟩ rfl hn hL.1 hst (lv_room hcat) d ⟨hcs, hss⟩) k
theorem r_callS (X : Cx p l R s m args meth c cc nL own ret hh w) (hC : CT l y [Cond.code y bytes maxL rt] n2 mc2 ms2 w As M G o) (hm : MWb y bytes maxL rt n) (hi : Cond.static y ∈ lw_tb2) (hl : Cond.methodLink own index y ∈ lw_tb2) (hn : As.length = n) (hst : st0 = As.reverse ++ rest) (hcat : (rest.map fun v => v.category).sum ≤ 8) (hfr : n2 + 1 ≤ R.frames) (hlo : 40 * n2 + 40 ≤ R.locals) (hcs : cells + mc2 ≤ R.cells) (hss : slots + ms2 ≤ R.slots) (d : decode cc pc = .ok (.invokestatic index, 3)) (k : KO p l e R s m args below meth c cells slots Q nL w pc lv rest o mc2 ms2) : VE p l e R s m args below meth c cells slots Q nL w (pc) lv (st0) (ev w M G) := run_VE X (fun H locs ls hP hS hL => by
  exact vx_runS X.cf (hC H.size) ⟨X.cb hm hl hfr hlo, X.wd hi rfl⟩ ⟨CT_blind, X.pre hP hS⟩ rfl hn hL.1 hst (lv_room hcat) d ⟨hcs, hss⟩) k
theorem r_callSN (X : Cx p l R s m args meth c cc nL own ret hh w) (hC : CT l y [Cond.code y bytes maxL rt] n2 mc2 ms2 w As M G o) (hm : MWb y bytes maxL rt n) (hi : Cond.static y ∈ lw_tb2) (hl : Cond.methodLinkNest own index y host ∈ lw_tb2) (hn : As.length = n) (hst : st0 = As.reverse ++ rest) (hcat : (rest.map fun v => v.category).sum ≤ 8) (hfr : n2 + 1 ≤ R.frames) (hlo : 40 * n2 + 40 ≤ R.locals) (hcs : cells + mc2 ≤ R.cells) (hss : slots + ms2 ≤ R.slots) (d : decode cc pc = .ok (.invokestatic index, 3)) (k : KO p l e R s m args below meth c cells slots Q nL w pc lv rest o mc2 ms2) : VE p l e R s m args below meth c cells slots Q nL w (pc) lv (st0) (ev w M G) := run_VE X (fun H locs ls hP hS hL => by
  exact vx_runSN X.cf (hC H.size) ⟨X.cn hm hl hfr hlo, X.wd hi rfl, trivial⟩ ⟨CT_blind, X.pre hP hS⟩ rfl hn hL.1 hst (lv_room hcat) d ⟨hcs, hss⟩) k

end One
/-- a contract, by the walk of the body -/
theorem CT_of {y : MethodName} {maxL n nn mc ms : Nat} {rt : Option FieldType} {av : List Value} {M : Mem} {G : Lng} {o : Oc} (hnt : l.stackTraces = false) (hwi : WI w) (hm : MWb y cc maxL rt nn) (hav : ∀ v ∈ av, v.category = 1) (hlen : av.length ≤ maxL)
    (body : ∀ (p : Program) (e : Env) (s : State) (m : MethodId) (args : Array Value) (below : List Frame) (meth : Method) (c : Code), Cx p l (rmv n mc ms) s m args meth c cc maxL y.cls rt [] w → VE p l e (rmv n mc ms) s m args below meth c 0 0 (QV w o below args s mc ms) maxL w 0 (av.map some ++ List.replicate (maxL - av.length) none) [] (ev w M G)) : CT l y [Cond.code y cc maxL rt] n mc ms w av M G o := by
  intro sz
  refine vx_ofW (cc := cc) (maxL := maxL) (ret := rt) hm.2.2.2.2.2 rfl ?_
  intro p e s m args below meth c s₁ B hml hno hv
  obtain ⟨rfl, hsz, hP, hK, hZ⟩ := hv
  subst hsz
  have hl := LV.entry av maxL hav hlen
  rw [lg_entry_eq]
  exact body p e s m _ below meth c ⟨⟨B.exec, B.bytes, hml, findClass_of_methodNamed B.named⟩, ⟨B.notSynchronized, B.returns, List.eq_nil_iff_forall_not_mem.mpr (fun x hx => hno x hx), hnt⟩, hK, hwi, hZ⟩ s.heap [] _ hP va_S.rf hl
theorem r_throwS (X : Cx p l R s m args meth c cc nL "Entitled" ret [] w) {cls text : String} {ik is ic mc ms : Nat} {M : Mem} {G : Lng} (hcls : Bundle.fit cls = true) (hk : Cond.classLink "Entitled" ik cls ∈ lw_tb2) (hini : Cond.initialized cls ∈ lw_tb2) (hsw : (is, text) ∈ SW) (hat : ∀ q ∈ vx_atS "Entitled" ic cls exN, q ∈ lw_tb2 ∧ gw q = true ∧ vx_ot q = true)
    (d0 : decode cc pc = .ok (.new ik, 3)) (d3 : decode cc (pc + 3) = .ok (.dup, 1)) (d4 : decode cc (pc + 4) = .ok (.ldc is, 2)) (d6 : decode cc (pc + 6) = .ok (.invokespecial ic, 3)) (d9 : decode cc (pc + 9) = .ok (.athrow, 1))
    (hRf : 5 < R.frames) (hRl : (st.map fun v => v.category).sum + 82 ≤ R.locals) (hRc : cells + 1 ≤ R.cells) (hRs : slots + 6 ≤ R.slots) (hc : cells + 1 ≤ mc) (hs : slots + 6 ≤ ms) {o : Oc} (ho : o = thO cls M G) : VE p l e R s m args below meth c cells slots (QV w o below args s mc ms) nL w pc lv st (ev w M G) := fun H locs ls hP hS hL => by
  subst ho
  obtain ⟨sa, hsa⟩ := X.kw.2.2.1 _ hsw
  obtain ⟨hU, hN⟩ := X.hz.all (Nat.le_refl _)
  refine vx_throwS (names := exN) X.x X.b X.nst X.ow hcls (by decide) (X.wd hk rfl) (X.wd hini rfl) hsa (fun q hq => X.wd (hat q hq).1 (hat q hq).2.1) (fun q hq => ?_) hU hN hS (by rw [hL.1, X.ml]) d0 d3 d4 d6 d9 (by rw [X.tab]; intro x hx; cases hx) hRf hRl hRc hRs X.lk (fun t hA h1 h2 => ⟨rfl, ?_, ?_⟩) hS.2.2 hc hs
  · rcases List.mem_cons.mp hq with rfl | hq
    · rfl
    · rcases List.mem_cons.mp hq with rfl | hq
      · rfl
      · exact (hat q hq).2.2
  · exact va_P.kept hP (fun k q hk => h2 q.1 (va_at.lt (hP k q hk)))
  · exact ⟨Nat.le_trans hS.1 h1, fun q g1 g2 => (h2 q (Nat.lt_of_lt_of_le g1 hS.1)).trans (hS.2.1 q g1 g2)⟩
theorem r_catch (X : Cx p l R s m args meth c cc nL own ret hh w) {X9 nm : String} (pre : List ExceptionTableEntry) (x : ExceptionTableEntry) (suf : List ExceptionTableEntry) (hsplit : tableOf hh = pre ++ x :: suf) (hpass : ∀ z ∈ pre, covers z pc = false ∨ (z.catchType ≠ 0 ∧ ∃ nm : String, Cond.classLink own z.catchType nm ∈ lw_tb2 ∧ (X9, nm) ∈ NCs)) (hx : covers x pc = true) (h0 : x.catchType ≠ 0) (hlink : Cond.classLink own x.catchType nm ∈ lw_tb2) (hcast : Cond.castable X9 nm ∈ lw_tb2) (kk : ∀ q : Nat, VE p l e R s m args below meth c cells slots Q nL w (x.handlerPc) lv ([.ref q]) E) : VX p l e R s m args below meth c cells slots Q nL w X9 (pc) lv (st) E := fun H locs ls q ce hP hS hL hq hv hcl =>
  vx_catch X.ow pre x suf (by rw [X.tab, hsplit]) (fun z hz => (hpass z hz).imp id (fun h => ⟨h.1, by obtain ⟨nm2, h1, h2⟩ := h.2; exact ⟨nm2, X.wd h1 rfl, X.kw.2.2.2.1 _ h2⟩⟩)) hx h0 (X.wd hlink rfl) (X.wd hcast rfl) hq hv hcl (kk q H locs ls hP hS hL)
end CallsV
