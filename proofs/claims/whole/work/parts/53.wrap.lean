/-! THE LAW'S CALLS: exceptions become numbers, answers go into out -/
section Wrap
variable {p : Program} {l : Launch} {e : Env} {R : Room} {s : State} {m : MethodId} {args : Array Value} {below : List Frame} {meth : Method} {c : Code} {cells slots : Nat} {Q : State → Prop} {cc : ByteArray} {nL : Nat} {own : String} {ret : Option FieldType} {hh : List (Nat × Nat × Nat × Nat)} {w : Wo} {pc : Nat} {lv : List (Option Value)} {st : List Value} {E : Nat × Nat → va_E}
theorem WL_at {D : va_G} {cl : List vw_C} {E1 E2 : Nat × Nat → va_E} {H : Heap} (h : ∀ k ∈ w.2.1, ∀ q, va_at D cl (q, E1 k) H → va_at D cl (q, E2 k) H) (hP : va_P D cl (WL w E1) H) : va_P D cl (WL w E2) H := fun i x hx => by
  unfold WL at hx
  rw [List.getElem?_map] at hx
  cases hk : w.2.1[i]? with
  | none => rw [hk] at hx; cases hx
  | some k =>
    rw [hk] at hx
    cases hx
    exact h k (List.mem_of_getElem? hk) _ (hP i _ (WL_get hk))
theorem ev_gs {M : Mem} {G : Lng} {k k0 : Nat × Nat} {x : Int64} (h : k ≠ k0) : ev w M (gs G k0 x) k = ev w M G k := by
  have e : gs G k0 x k = G k := if_neg h
  unfold ev
  rw [e]
theorem arr1 {cA : ClassId} {f g : Nat → Value} (h : f 0 = g 0) : arrV cA 1 f = arrV cA 1 g := by
  unfold arrV
  congr 1
  congr 1
  funext j
  have hj : j.1 = 0 := by have := j.2; omega
  rw [hj, h]
theorem r_last0 (X : Cx p l R s m args meth c cc nL own ret hh w) {M : Mem} {G : Lng} {x : Int64} (hk : (40, 0) ∈ w.2.1) (d : decode cc pc = .ok (.lastore, 1)) (k : VE p l e R s m args below meth c cells slots Q nL w (pc + 1) lv st (ev w M (gs G (40, 0) x))) : VE p l e R s m args below meth c cells slots Q nL w pc lv (.long x :: .int (nI 0) :: .ref (w.1 (40, 0)) :: st) (ev w M G) := fun H locs ls hP hS hL => by
  obtain ⟨q0, hq⟩ := WL_in hk
  refine va_last X.x X.b X.k hP (WD X.wi s.heap.size _) hS q0 3 (cA := w.2.2.2 3) (n := 1) (f := fun _ => G (40, 0)) (by rw [WL_get hq]; rfl) rfl (vp_in_nI (n := 0) (N := 1) (by decide) (by decide)) d (fun H1 locs1 hP1 hD1 hS1 => k H1 locs1 ls ?_ hS1 hL)
  rw [WL_set X.wi hq] at hP1
  refine WL_at (fun key _ q hv => ?_) hP1
  unfold eset at hv
  by_cases h : key = (40, 0)
  · subst h
    rw [if_pos rfl] at hv
    have e : vp_cell (w.2.2.2 3) (1, .inr (.inl (vp_updL (fun _ => G (40, 0)) (nI 0).toNatClampNeg x))) = vp_cell (w.2.2.2 3) (1, .inr (.inl (fun _ => gs G (40, 0) x (40, 0)))) := arr1 (f := fun j => Value.long (vp_updL (fun _ => G (40, 0)) (nI 0).toNatClampNeg x j)) (g := fun _ => Value.long (gs G (40, 0) x (40, 0))) (by
      show Value.long (vp_updL (fun _ => G (40, 0)) (nI 0).toNatClampNeg x 0) = Value.long (gs G (40, 0) x (40, 0))
      rw [nI_clamp (by decide)]
      simp [vp_updL, gs])
    have hv2 : H1[q]? = some (vp_cell (w.2.2.2 3) (1, .inr (.inl (vp_updL (fun _ => G (40, 0)) (nI 0).toNatClampNeg x)))) := hv
    rw [e] at hv2
    exact hv2
  · rw [if_neg h] at hv
    rw [ev_gs h]
    exact hv
theorem r_dast0 (X : Cx p l R s m args meth c cc nL own ret hh w) {M : Mem} {G : Lng} {x : UInt64} (hk : (41, 0) ∈ w.2.1) (d : decode cc pc = .ok (.dastore, 1)) (k : VE p l e R s m args below meth c cells slots Q nL w (pc + 1) lv st (ev w M (gs G (41, 0) x.toInt64))) : VE p l e R s m args below meth c cells slots Q nL w pc lv (.double x :: .int (nI 0) :: .ref (w.1 (41, 0)) :: st) (ev w M G) := fun H locs ls hP hS hL => by
  obtain ⟨q0, hq⟩ := WL_in hk
  refine va_dast X.x X.b X.k hP (WD X.wi s.heap.size _) hS q0 4 (cA := w.2.2.2 4) (n := 1) (f := fun _ => (G (41, 0)).toUInt64) (by rw [WL_get hq]; rfl) rfl (vp_in_nI (n := 0) (N := 1) (by decide) (by decide)) d (fun H1 locs1 hP1 hD1 hS1 => k H1 locs1 ls ?_ hS1 hL)
  rw [WL_set X.wi hq] at hP1
  refine WL_at (fun key _ q hv => ?_) hP1
  unfold eset at hv
  by_cases h : key = (41, 0)
  · subst h
    rw [if_pos rfl] at hv
    have e : vp_cell (w.2.2.2 4) (1, .inr (.inr (.inr (.inl (vf_upd (fun _ => (G (41, 0)).toUInt64) (nI 0).toNatClampNeg x))))) = vp_cell (w.2.2.2 4) (1, .inr (.inr (.inr (.inl (fun _ => (gs G (41, 0) x.toInt64 (41, 0)).toUInt64))))) := arr1 (f := fun j => Value.double (vf_upd (fun _ => (G (41, 0)).toUInt64) (nI 0).toNatClampNeg x j)) (g := fun _ => Value.double (gs G (41, 0) x.toInt64 (41, 0)).toUInt64) (by
      show Value.double (vf_upd (fun _ => (G (41, 0)).toUInt64) (nI 0).toNatClampNeg x 0) = Value.double (gs G (41, 0) x.toInt64 (41, 0)).toUInt64
      rw [nI_clamp (by decide)]
      simp [vf_upd, gs])
    have hv2 : H1[q]? = some (vp_cell (w.2.2.2 4) (1, .inr (.inr (.inr (.inl (vf_upd (fun _ => (G (41, 0)).toUInt64) (nI 0).toNatClampNeg x)))))) := hv
    rw [e] at hv2
    exact hv2
  · rw [if_neg h] at hv
    rw [ev_gs h]
    exact hv
/-- what the tables say of a method with handlers -/
def MWx (y : MethodName) (bytes : ByteArray) (maxL : Nat) (rt : Option FieldType) (hh : List (Nat × Nat × Nat × Nat)) (n : Nat) : Prop := Cond.codeWith y bytes maxL rt hh ∈ lw_tbl ∧ Cond.initialized y.cls ∈ lw_tbl ∧ (y.cls ≠ "java/lang/invoke/MethodHandle" ∧ y.cls ≠ "java/lang/invoke/VarHandle") ∧ (parseMethodDescriptor y.desc).map (fun d => d.parameters.length) = some n ∧ maxL ≤ 21 ∧ plainName y.cls = true
theorem MWx.n {y : MethodName} {bytes : ByteArray} {maxL : Nat} {rt : Option FieldType} {hh : List (Nat × Nat × Nat × Nat)} {n : Nat} (h : MWx y bytes maxL rt hh n) : ∀ sig, parseMethodDescriptor y.desc = some sig → n = sig.parameters.length := fun sig hs => by
  have h2 := h.2.2.2.1
  rw [hs] at h2
  exact (Option.some.inj h2).symm
theorem r_callSX {y : MethodName} {bytes : ByteArray} {maxL n n2 mc2 ms2 index : Nat} {rt : Option FieldType} {hx : List (Nat × Nat × Nat × Nat)} {As rest st0 : List Value} {M : Mem} {G : Lng} {o : Oc} (X : Cx p l R s m args meth c cc nL own ret hh w) (hC : CT l y [Cond.codeWith y bytes maxL rt hx] n2 mc2 ms2 w As M G o) (hm : MWx y bytes maxL rt hx n) (hi : Cond.static y ∈ lw_tbl) (hl : Cond.methodLink own index y ∈ lw_tbl) (hn : As.length = n) (hst : st0 = As.reverse ++ rest) (hcat : (rest.map fun v => v.category).sum ≤ 8) (hfr : n2 + 1 ≤ R.frames) (hlo : 40 * n2 + 40 ≤ R.locals) (hcs : cells + mc2 ≤ R.cells) (hss : slots + ms2 ≤ R.slots) (d : decode cc pc = .ok (.invokestatic index, 3)) (k : KO p l e R s m args below meth c cells slots Q nL w pc lv rest o mc2 ms2) : VE p l e R s m args below meth c cells slots Q nL w (pc) lv (st0) (ev w M G) := run_VE X (fun H locs ls hP hS hL => by
  refine vx_runSX X.cf (hC H.size) ⟨⟨rfl, rfl, hfr, ?_, fun w hw a' U hW => by rw [List.mem_singleton.mp hw]; exact word_at hW (Or.inl rfl) (X.wd hm.1 rfl), List.mem_cons_self⟩, X.wd hm.1 rfl, X.wd hm.2.1 rfl, hm.2.2.1, hm.n, X.wd hl rfl, X.wd hi rfl⟩ ⟨CT_blind, X.pre hP hS⟩ rfl hn hL.1 hst (lv_room hcat) d ⟨hcs, hss⟩
  have := hm.2.2.2.2.1
  simp only [rmv]
  omega) k
theorem CTx_of {y : MethodName} {maxL n nn mc ms : Nat} {rt : Option FieldType} {av : List Value} {M : Mem} {G : Lng} {o : Oc} (hnt : l.stackTraces = false) (hwi : WI w) (hm : MWx y cc maxL rt hh nn) (hav : ∀ v ∈ av, v.category = 1) (hlen : av.length ≤ maxL)
    (body : ∀ (p : Program) (e : Env) (s : State) (m : MethodId) (args : Array Value) (below : List Frame) (meth : Method) (c : Code), Cx p l (rmv n mc ms) s m args meth c cc maxL y.cls rt hh w → VE p l e (rmv n mc ms) s m args below meth c 0 0 (QV w o below args s mc ms) maxL w 0 (av.map some ++ List.replicate (maxL - av.length) none) [] (ev w M G)) : CT l y [Cond.codeWith y cc maxL rt hh] n mc ms w av M G o := by
  intro sz
  refine vx_ofWH (cc := cc) (maxL := maxL) (ret := rt) (hh := hh) hm.2.2.2.2.2 rfl ?_
  intro p e s m args below meth c s₁ B hml hv
  obtain ⟨rfl, hsz, hP, hK, hZ⟩ := hv
  subst hsz
  have hl := LV.entry av maxL hav hlen
  rw [lg_entry_eq]
  exact body p e s m _ below meth c ⟨⟨B.exec, B.bytes, hml, findClass_of_methodNamed B.named⟩, ⟨B.notSynchronized, B.returns, vx_table (x := y) B (atoms_spec (ws := [Cond.codeWith y cc maxL rt hh]) B.pre _ List.mem_cons_self), hnt⟩, hK, hwi, hZ⟩ s.heap [] _ hP va_S.rf hl
/-- what a wrapper makes of an outcome -/
def wrR (xs : List String) (o oW : Oc) : Prop :=
  (∃ X k M1 G1, xs[k]? = some X ∧ o = thO X M1 G1 ∧ oW = okO (some (.int (nI (k + 1)))) M1 G1) ∨
  (∃ v M1 G1, o = okO (some (.int v)) M1 G1 ∧ oW = okO (some (.int (nI 0))) M1 (gs G1 (40, 0) v.toInt64))
theorem kw {rest : List Value} {mc2 ms2 : Nat} {xs : List String} {o oW : Oc} (h : wrR xs o oW) (k1 : ∀ (k : Nat) X M1 G1, xs[k]? = some X → oW = okO (some (.int (nI (k + 1)))) M1 G1 → VX p l e R s m args below meth c (cells + mc2) (slots + ms2) Q nL w X pc lv rest (ev w M1 G1)) (k2 : ∀ v M1 G1, oW = okO (some (.int (nI 0))) M1 (gs G1 (40, 0) v.toInt64) → VE p l e R s m args below meth c (cells + mc2) (slots + ms2) Q nL w (pc + 3) lv (.int v :: rest) (ev w M1 G1)) : KO p l e R s m args below meth c cells slots Q nL w pc lv rest o mc2 ms2 := by
  rcases h with ⟨X, k, M1, G1, h1, rfl, h3⟩ | ⟨v, M1, G1, rfl, h3⟩
  · exact kox (k1 k X M1 G1 h1 h3)
  · exact ko1 (k2 v M1 G1 h3)
/-- .. of coverage's -/
def wrD (o oW : Oc) : Prop :=
  (∃ M1 G1, o = thO xNSE M1 G1 ∧ oW = okO (some (.int (nI 1))) M1 G1) ∨
  (∃ (f : UInt32) (M1 : Mem) (G1 : Lng), vf_n64 (FP.f2d f) ∧ o = okO (some (.float f)) M1 G1 ∧ oW = okO (some (.int (nI 0))) M1 (gs G1 (41, 0) (FP.f2d f).toInt64))
theorem kd {rest : List Value} {mc2 ms2 : Nat} {o oW : Oc} (h : wrD o oW) (k1 : ∀ M1 G1, oW = okO (some (.int (nI 1))) M1 G1 → VX p l e R s m args below meth c (cells + mc2) (slots + ms2) Q nL w xNSE pc lv rest (ev w M1 G1)) (k2 : ∀ (f : UInt32) M1 G1, vf_n64 (FP.f2d f) → oW = okO (some (.int (nI 0))) M1 (gs G1 (41, 0) (FP.f2d f).toInt64) → VE p l e R s m args below meth c (cells + mc2) (slots + ms2) Q nL w (pc + 3) lv (.float f :: rest) (ev w M1 G1)) : KO p l e R s m args below meth c cells slots Q nL w pc lv rest o mc2 ms2 := by
  rcases h with ⟨M1, G1, rfl, h3⟩ | ⟨f, M1, G1, hn, rfl, h3⟩
  · exact kox (k1 M1 G1 h3)
  · exact ko1 (k2 f M1 G1 hn h3)
end Wrap
