/-! THE SEARCHES -/
section M5
def lvs : List (Option Value) → List (Option Value) → Prop
  | [], [] => True
  | a :: r, b :: t => (a = none ∨ a = b) ∧ lvs r t
  | _, _ => False
theorem lvs_spec : ∀ {a b : List (Option Value)}, lvs a b → a.length = b.length ∧ ∀ (i : Nat) (v : Value), a[i]? = some (some v) → b[i]? = some (some v)
  | [], [], _ => ⟨rfl, fun i v h => by simp at h⟩
  | a :: r, b :: t, h => by
    obtain ⟨h1, h2⟩ := lvs_spec h.2
    refine ⟨by simp [h1], fun i v hi => ?_⟩
    cases i with
    | zero =>
      have h3 : a = some v := by simpa using hi
      rcases h.1 with h4 | h4
      · rw [h4] at h3; cases h3
      · rw [← h4, h3]; rfl
    | succ j => exact h2 j v (by simpa using hi)
  | [], _ :: _, h => False.elim h
  | _ :: _, [], h => False.elim h
theorem lvs_n : lvs [] [] := trivial
theorem lvs_c {a b : Option Value} {r t : List (Option Value)} (h : a = none ∨ a = b) (h2 : lvs r t) : lvs (a :: r) (b :: t) := ⟨h, h2⟩
theorem r_lv {p : Program} {l : Launch} {e : Env} {R : Room} {s : State} {m : MethodId} {args : Array Value} {below : List Frame} {meth : Method} {c : Code} {cells slots : Nat} {Q : State → Prop} {nL : Nat} {w : Wo} {pc : Nat} {lv lv2 : List (Option Value)} {st : List Value} {E : Nat × Nat → va_E} (h : lvs lv2 lv) (k : VE p l e R s m args below meth c cells slots Q nL w pc lv2 st E) : VE p l e R s m args below meth c cells slots Q nL w pc lv st E := fun H locs ls hP hS hL =>
  k H locs ls hP hS ⟨hL.1, (lvs_spec h).1.trans hL.2.1, hL.2.2.1, fun i v hi => hL.2.2.2 i v ((lvs_spec h).2 i v hi)⟩
def mpr (M : Mem) (e : Nat) : Int32 := M 0 e 7 * mss M e
def scG (f : Nat → Int32 → Mem → Mem) (a : Nat) (cnt : Int32) (e : Nat) (A : Mem) : Mem := if fit A e a = true then tkM (if mss (giveM A a e) e = 0 then f (a + 1) (cnt + nI 1) (giveM A a e) else giveM A a e) a e else A
def sc : Nat → Nat → Int32 → Mem → Mem
  | 0 => fun a cnt M => if M 2 0 9 < cnt + M 8 0 a then keepM M cnt else M
  | d + 1 => fun a cnt M => if M 2 0 9 < cnt + M 8 0 a then sc d (a + 1) cnt (itn (scG (sc d) a cnt) 5 M) else M
def spG (f : Nat → Int32 → Mem → Mem) (a : Nat) (cost : Int32) (e : Nat) (A : Mem) : Mem := if fit A e a = true then tkM (f (a + 1) (cost - mpr A e + mpr (giveM A a e) e) (giveM A a e)) a e else A
def sp : Nat → Nat → Int32 → Mem → Mem
  | 0 => fun _ cost M => if cost < M 2 0 9 then keepM M cost else M
  | d + 1 => fun a cost M => if cost < M 2 0 9 then (if M 1 a 0 = 0 then sp d (a + 1) cost M else itn (spG (sp d) a cost) 5 M) else M
def tcG (f : Nat → Mem → Mem) (a e : Nat) (A : Mem) : Mem := if fit A e a = true then tkM (f (a + 1) (giveM A a e)) a e else A
def tc : Nat → Nat → Mem → Mem
  | 0 => fun _ M => if alF M 5 0 = true ∧ ¬ cgv M 12 ≤ M 2 0 9 then keepM M (cgv M 12) else M
  | d + 1 => fun a M => tc d (a + 1) (itn (tcG (tc d) a) 5 M)
def tpu : Nat → Nat → Mem → Mem
  | 0 => fun _ M => if M 2 0 9 ≤ smM M 5 then M else keepM M (smM M 5)
  | d + 1 => fun a M => if M 1 a 0 = 0 then tpu d (a + 1) M else itn (tcG (tpu d) a) 5 M
theorem Sm_sc : ∀ {d a : Nat} {cnt : Int32} {M M1 : Mem}, Sm M M1 → Sm M (sc d a cnt M1)
  | 0, a, cnt, M, M1, h => by
    unfold sc; split
    · exact Sm_keep h
    · exact h
  | d + 1, a, cnt, M, M1, h => by
    unfold sc; split
    · refine Sm_sc (Sm_itn (fun e A hA => ?_) h 5)
      unfold scG; split
      · refine Sm_tk ?_
        split
        · exact Sm_sc (Sm_give hA)
        · exact Sm_give hA
      · exact hA
    · exact h
theorem Sm_sp : ∀ {d a : Nat} {cnt : Int32} {M M1 : Mem}, Sm M M1 → Sm M (sp d a cnt M1)
  | 0, a, cnt, M, M1, h => by
    unfold sp; split
    · exact Sm_keep h
    · exact h
  | d + 1, a, cnt, M, M1, h => by
    unfold sp; split
    · split
      · exact Sm_sp h
      · refine Sm_itn (fun e A hA => ?_) h 5
        unfold spG; split
        · exact Sm_tk (Sm_sp (Sm_give hA))
        · exact hA
    · exact h
theorem Sm_tc : ∀ {d a : Nat} {M M1 : Mem}, Sm M M1 → Sm M (tc d a M1)
  | 0, a, M, M1, h => by
    unfold tc; split
    · exact Sm_keep h
    · exact h
  | d + 1, a, M, M1, h => by
    unfold tc
    refine Sm_tc (Sm_itn (fun e A hA => ?_) h 5)
    unfold tcG; split
    · exact Sm_tk (Sm_tc (Sm_give hA))
    · exact hA
theorem Sm_tp : ∀ {d a : Nat} {M M1 : Mem}, Sm M M1 → Sm M (tpu d a M1)
  | 0, a, M, M1, h => by
    unfold tpu; split
    · exact h
    · exact Sm_keep h
  | d + 1, a, M, M1, h => by
    unfold tpu; split
    · exact Sm_tp h
    · refine Sm_itn (fun e A hA => ?_) h 5
      unfold tcG; split
      · exact Sm_tk (Sm_tp (Sm_give hA))
      · exact hA
theorem DI_sc {d a : Nat} {cnt : Int32} {M : Mem} (h : DI M) : DI (sc d a cnt M) := h.sm (Sm_sc Sm.rf)
theorem DI_sp {d a : Nat} {cnt : Int32} {M : Mem} (h : DI M) : DI (sp d a cnt M) := h.sm (Sm_sp Sm.rf)
theorem DI_tc {d a : Nat} {M : Mem} (h : DI M) : DI (tc d a M) := h.sm (Sm_tc Sm.rf)
theorem DI_tp {d a : Nat} {M : Mem} (h : DI M) : DI (tpu d a M) := h.sm (Sm_tp Sm.rf)
set_option maxHeartbeats 4000000 in
set_option maxRecDepth 100000 in
theorem lp_X2_searchCover {p : Program} {l : Launch} {e : Env} {s : State} {m : MethodId} {args : Array Value} {below : List Frame} {meth : Method} {c : Code} {w : Wo} {G : Lng} {d : Nat} {a : Nat} {cv : Int32} {M : Mem} (hnt : l.stackTraces = false) (hw : WK w) (X : Cx p l (rmv (10 + (d + 1)) 0 0) s m args meth c cX2_searchCover 4 yX2_searchCover.cls none [] w) (ihC : ∀ (a : Nat) (cv : Int32) (M : Mem), a + d = 12 → DI M → CT l yX2_searchCover [Cond.code yX2_searchCover cX2_searchCover 4 none] (10 + d) 0 0 w [.ref (w.1 (2, 0)), .int (nI a), .int cv] M G (okO none (sc d a cv M) G)) (ha : a + (d + 1) = 12) : ∀ (n k : Nat) (M1 : Mem), k + n = 5 → M1 = itn (scG (sc d) a cv) k M → DI M1 → VE p l e (rmv (10 + (d + 1)) 0 0) s m args below meth c 0 0 (QV w (okO none (sc d (a + 1) cv (itn (scG (sc d) a cv) 5 M)) G) below args s 0 0) 4 w 40 [some (.ref (w.1 (2, 0))), some (.int (nI a)), some (.int cv), some (.int (nI k))] [] (ev w M1 G) := by
  intro n
  induction n with
  | zero =>
    intro k M1 hk hM hD1
    have hk5 : k = 5 := by omega
    subst hk5
    refine r_iload_n X dX2_searchCover_40 (i := 3) rfl rfl ?_
    refine r_iconst X dX2_searchCover_41 (v := nI 5) (by decide) ?_
    first | with_reducible refine r_icmpn_ge X dX2_searchCover_42 (tgt := 103) (by decide) (by omega) (by omega) (fun h1 => ?_) (fun h1 => ?_) | refine r_icmp_ge X dX2_searchCover_42 (tgt := 103) (by decide) (fun h1 => ?_) (fun h1 => ?_)
    · refine r_aload_n X dX2_searchCover_103 (i := 0) rfl rfl ?_
      refine r_iload_n X dX2_searchCover_104 (i := 1) rfl rfl ?_
      refine r_iconst X dX2_searchCover_105 (v := nI 1) (by decide) ?_
      refine r_iadd X dX2_searchCover_106 ?_
      rw [nI_add]
      refine r_iload_n X dX2_searchCover_107 (i := 2) rfl rfl ?_
      refine r_callS X (ihC _ _ _ (by omega) (by first | with_reducible assumption | with_reducible rfl | omega | (with_reducible (repeat (first | assumption | refine DI_chg ?_ | refine DI_sc ?_ | refine DI_sp ?_ | refine DI_tc ?_ | refine DI_tp ?_ | refine DI_svB ?_ | refine DI_give ?_ | refine DI_tk ?_ | refine DI_keep ?_ | refine DI_cls ?_ | refine DI_clS ?_ | refine DI_clr ?_ | refine DI_scr rfl ?_)); done))) mw_X2_searchCover mi_X2_searchCover ml_X2_246 rfl rfl (Nat.le_of_ble_eq_true rfl) (by first | decide | (simp only [rmv]; omega)) (by first | decide | (simp only [rmv]; omega)) (by first | decide | (simp only [rmv]; omega)) (by first | decide | (simp only [rmv]; omega)) dX2_searchCover_108 (ko0 ?_)
      refine r_vret X dX2_searchCover_111 (by first | decide | (simp only [rmv]; omega)) (by first | decide | (simp only [rmv]; omega)) ?_
      first | with_reducible rfl | (simp [sc, hM, h1]; done) | contradiction | with_reducible assumption
    · exact absurd h1 (by omega)
  | succ n ih =>
    intro k M1 hk hM hD1
    refine r_iload_n X dX2_searchCover_40 (i := 3) rfl rfl ?_
    refine r_iconst X dX2_searchCover_41 (v := nI 5) (by decide) ?_
    first | with_reducible refine r_icmpn_ge X dX2_searchCover_42 (tgt := 103) (by decide) (by omega) (by omega) (fun h1 => ?_) (fun h1 => ?_) | refine r_icmp_ge X dX2_searchCover_42 (tgt := 103) (by decide) (fun h1 => ?_) (fun h1 => ?_)
    · exact absurd h1 (by omega)
    · refine r_aload_n X dX2_searchCover_45 (i := 0) rfl rfl ?_
      refine r_get X kc2 (j := 1) (hw.2 _ _ (by first | decide | (simp [cnt] <;> omega))) ev2 (by decide) rfl fl_X2_18 dX2_searchCover_46 ?_
      refine r_iload_n X dX2_searchCover_49 (i := 3) rfl rfl ?_
      first | refine r_aald X (t0 := 6) (hw.2 _ _ (by first | decide | (simp [cnt] <;> omega))) rfl ev4 (by first | with_reducible rfl | with_reducible assumption | (rw [pk_mul, nI_add])) (by first | with_reducible assumption | omega) (by decide) rfl dX2_searchCover_50 ?_ | refine r_aald X (t0 := 5) (hw.2 _ _ (by first | decide | (simp [cnt] <;> omega))) rfl ev5 (by first | with_reducible rfl | with_reducible assumption | (rw [pk_mul, nI_add])) (by first | with_reducible assumption | omega) (by decide) rfl dX2_searchCover_50 ?_
      refine r_aload_n X dX2_searchCover_51 (i := 0) rfl rfl ?_
      refine r_get X kc2 (j := 0) (hw.2 _ _ (by first | decide | (simp [cnt] <;> omega))) ev2 (by decide) rfl fl_X2_11 dX2_searchCover_52 ?_
      refine r_iload_n X dX2_searchCover_55 (i := 1) rfl rfl ?_
      first | refine r_aald X (t0 := 6) (hw.2 _ _ (by first | decide | (simp [cnt] <;> omega))) rfl ev4 (by first | with_reducible rfl | with_reducible assumption | (rw [pk_mul, nI_add])) (by first | with_reducible assumption | omega) (by decide) rfl dX2_searchCover_56 ?_ | refine r_aald X (t0 := 5) (hw.2 _ _ (by first | decide | (simp [cnt] <;> omega))) rfl ev5 (by first | with_reducible rfl | with_reducible assumption | (rw [pk_mul, nI_add])) (by first | with_reducible assumption | omega) (by decide) rfl dX2_searchCover_56 ?_
      refine r_callVN X (c_X0_fits hnt hw (by first | with_reducible assumption | with_reducible rfl | omega | (with_reducible (repeat (first | assumption | refine DI_chg ?_ | refine DI_sc ?_ | refine DI_sp ?_ | refine DI_tc ?_ | refine DI_tp ?_ | refine DI_svB ?_ | refine DI_give ?_ | refine DI_tk ?_ | refine DI_keep ?_ | refine DI_cls ?_ | refine DI_clS ?_ | refine DI_clr ?_ | refine DI_scr rfl ?_)); done)) (by first | with_reducible assumption | with_reducible rfl | omega | (with_reducible (repeat (first | assumption | refine DI_chg ?_ | refine DI_sc ?_ | refine DI_sp ?_ | refine DI_tc ?_ | refine DI_tp ?_ | refine DI_svB ?_ | refine DI_give ?_ | refine DI_tk ?_ | refine DI_keep ?_ | refine DI_cls ?_ | refine DI_clS ?_ | refine DI_clr ?_ | refine DI_scr rfl ?_)); done))) mw_X0_fits kc0 mi_X0_fits (hw.2 _ _ (by first | decide | (simp [cnt] <;> omega))) ev0 ml_X2_165 rfl rfl (Nat.le_of_ble_eq_true rfl) (by first | decide | (simp only [rmv]; omega)) (by first | decide | (simp only [rmv]; omega)) (by first | decide | (simp only [rmv]; omega)) (by first | decide | (simp only [rmv]; omega)) dX2_searchCover_57 (ko1 ?_)
      first | with_reducible refine r_ifb_eq X dX2_searchCover_60 (tgt := 97) (by decide) (fun h2 => ?_) (fun h2 => ?_) | refine r_if_eq X dX2_searchCover_60 (tgt := 97) (by decide) (fun h2 => ?_) (fun h2 => ?_)
      · first | with_reducible refine r_iincn X dX2_searchCover_97 rfl (by decide) rfl ?_ | refine r_iinc1 X dX2_searchCover_97 rfl (by decide) rfl ?_
        refine r_goto X dX2_searchCover_100 (tgt := 40) (by decide) ?_
        exact ih (k + 1) _ (by omega) (by rw [itn, ← hM]; simp [scG, h1, h2]) (by first | with_reducible assumption | with_reducible rfl | omega | (with_reducible (repeat (first | assumption | refine DI_chg ?_ | refine DI_sc ?_ | refine DI_sp ?_ | refine DI_tc ?_ | refine DI_tp ?_ | refine DI_svB ?_ | refine DI_give ?_ | refine DI_tk ?_ | refine DI_keep ?_ | refine DI_cls ?_ | refine DI_clS ?_ | refine DI_clr ?_ | refine DI_scr rfl ?_)); done))
      · refine r_aload_n X dX2_searchCover_63 (i := 0) rfl rfl ?_
        refine r_iload_n X dX2_searchCover_64 (i := 1) rfl rfl ?_
        refine r_iload_n X dX2_searchCover_65 (i := 3) rfl rfl ?_
        refine r_callV X (c_X2_give hnt hw (by first | with_reducible assumption | with_reducible rfl | omega | (with_reducible (repeat (first | assumption | refine DI_chg ?_ | refine DI_sc ?_ | refine DI_sp ?_ | refine DI_tc ?_ | refine DI_tp ?_ | refine DI_svB ?_ | refine DI_give ?_ | refine DI_tk ?_ | refine DI_keep ?_ | refine DI_cls ?_ | refine DI_clS ?_ | refine DI_clr ?_ | refine DI_scr rfl ?_)); done)) (by first | with_reducible assumption | with_reducible rfl | omega | (with_reducible (repeat (first | assumption | refine DI_chg ?_ | refine DI_sc ?_ | refine DI_sp ?_ | refine DI_tc ?_ | refine DI_tp ?_ | refine DI_svB ?_ | refine DI_give ?_ | refine DI_tk ?_ | refine DI_keep ?_ | refine DI_cls ?_ | refine DI_clS ?_ | refine DI_clr ?_ | refine DI_scr rfl ?_)); done)) (by first | with_reducible assumption | with_reducible rfl | omega | (with_reducible (repeat (first | assumption | refine DI_chg ?_ | refine DI_sc ?_ | refine DI_sp ?_ | refine DI_tc ?_ | refine DI_tp ?_ | refine DI_svB ?_ | refine DI_give ?_ | refine DI_tk ?_ | refine DI_keep ?_ | refine DI_cls ?_ | refine DI_clS ?_ | refine DI_clr ?_ | refine DI_scr rfl ?_)); done))) mw_X2_give kc2 mi_X2_give (hw.2 _ _ (by first | decide | (simp [cnt] <;> omega))) ev2 ml_X2_256 rfl rfl (Nat.le_of_ble_eq_true rfl) (by first | decide | (simp only [rmv]; omega)) (by first | decide | (simp only [rmv]; omega)) (by first | decide | (simp only [rmv]; omega)) (by first | decide | (simp only [rmv]; omega)) dX2_searchCover_66 (ko0 ?_)
        refine r_aload_n X dX2_searchCover_69 (i := 0) rfl rfl ?_
        refine r_get X kc2 (j := 1) (hw.2 _ _ (by first | decide | (simp [cnt] <;> omega))) ev2 (by decide) rfl fl_X2_18 dX2_searchCover_70 ?_
        refine r_iload_n X dX2_searchCover_73 (i := 3) rfl rfl ?_
        first | refine r_aald X (t0 := 6) (hw.2 _ _ (by first | decide | (simp [cnt] <;> omega))) rfl ev4 (by first | with_reducible rfl | with_reducible assumption | (rw [pk_mul, nI_add])) (by first | with_reducible assumption | omega) (by decide) rfl dX2_searchCover_74 ?_ | refine r_aald X (t0 := 5) (hw.2 _ _ (by first | decide | (simp [cnt] <;> omega))) rfl ev5 (by first | with_reducible rfl | with_reducible assumption | (rw [pk_mul, nI_add])) (by first | with_reducible assumption | omega) (by decide) rfl dX2_searchCover_74 ?_
        refine r_callVN X (c_X0_missing hnt hw (by first | with_reducible assumption | with_reducible rfl | omega | (with_reducible (repeat (first | assumption | refine DI_chg ?_ | refine DI_sc ?_ | refine DI_sp ?_ | refine DI_tc ?_ | refine DI_tp ?_ | refine DI_svB ?_ | refine DI_give ?_ | refine DI_tk ?_ | refine DI_keep ?_ | refine DI_cls ?_ | refine DI_clS ?_ | refine DI_clr ?_ | refine DI_scr rfl ?_)); done))) mw_X0_missing kc0 mi_X0_missing (hw.2 _ _ (by first | decide | (simp [cnt] <;> omega))) ev0 ml_X2_225 rfl rfl (Nat.le_of_ble_eq_true rfl) (by first | decide | (simp only [rmv]; omega)) (by first | decide | (simp only [rmv]; omega)) (by first | decide | (simp only [rmv]; omega)) (by first | decide | (simp only [rmv]; omega)) dX2_searchCover_75 (ko1 ?_)
        first | with_reducible refine r_ifb_ne X dX2_searchCover_78 (tgt := 91) (by decide) (fun h3 => ?_) (fun h3 => ?_) | refine r_if_ne X dX2_searchCover_78 (tgt := 91) (by decide) (fun h3 => ?_) (fun h3 => ?_)
        · refine r_aload_n X dX2_searchCover_91 (i := 0) rfl rfl ?_
          refine r_iload_n X dX2_searchCover_92 (i := 1) rfl rfl ?_
          refine r_iload_n X dX2_searchCover_93 (i := 3) rfl rfl ?_
          refine r_callV X (c_X2_takeBack hnt hw (by first | with_reducible assumption | with_reducible rfl | omega | (with_reducible (repeat (first | assumption | refine DI_chg ?_ | refine DI_sc ?_ | refine DI_sp ?_ | refine DI_tc ?_ | refine DI_tp ?_ | refine DI_svB ?_ | refine DI_give ?_ | refine DI_tk ?_ | refine DI_keep ?_ | refine DI_cls ?_ | refine DI_clS ?_ | refine DI_clr ?_ | refine DI_scr rfl ?_)); done)) (by first | with_reducible assumption | with_reducible rfl | omega | (with_reducible (repeat (first | assumption | refine DI_chg ?_ | refine DI_sc ?_ | refine DI_sp ?_ | refine DI_tc ?_ | refine DI_tp ?_ | refine DI_svB ?_ | refine DI_give ?_ | refine DI_tk ?_ | refine DI_keep ?_ | refine DI_cls ?_ | refine DI_clS ?_ | refine DI_clr ?_ | refine DI_scr rfl ?_)); done)) (by first | with_reducible assumption | with_reducible rfl | omega | (with_reducible (repeat (first | assumption | refine DI_chg ?_ | refine DI_sc ?_ | refine DI_sp ?_ | refine DI_tc ?_ | refine DI_tp ?_ | refine DI_svB ?_ | refine DI_give ?_ | refine DI_tk ?_ | refine DI_keep ?_ | refine DI_cls ?_ | refine DI_clS ?_ | refine DI_clr ?_ | refine DI_scr rfl ?_)); done))) mw_X2_takeBack kc2 mi_X2_takeBack (hw.2 _ _ (by first | decide | (simp [cnt] <;> omega))) ev2 ml_X2_260 rfl rfl (Nat.le_of_ble_eq_true rfl) (by first | decide | (simp only [rmv]; omega)) (by first | decide | (simp only [rmv]; omega)) (by first | decide | (simp only [rmv]; omega)) (by first | decide | (simp only [rmv]; omega)) dX2_searchCover_94 (ko0 ?_)
          first | with_reducible refine r_iincn X dX2_searchCover_97 rfl (by decide) rfl ?_ | refine r_iinc1 X dX2_searchCover_97 rfl (by decide) rfl ?_
          refine r_goto X dX2_searchCover_100 (tgt := 40) (by decide) ?_
          exact ih (k + 1) _ (by omega) (by rw [itn, ← hM]; simp [scG, h1, h2, h3]) (by first | with_reducible assumption | with_reducible rfl | omega | (with_reducible (repeat (first | assumption | refine DI_chg ?_ | refine DI_sc ?_ | refine DI_sp ?_ | refine DI_tc ?_ | refine DI_tp ?_ | refine DI_svB ?_ | refine DI_give ?_ | refine DI_tk ?_ | refine DI_keep ?_ | refine DI_cls ?_ | refine DI_clS ?_ | refine DI_clr ?_ | refine DI_scr rfl ?_)); done))
        · refine r_aload_n X dX2_searchCover_81 (i := 0) rfl rfl ?_
          refine r_iload_n X dX2_searchCover_82 (i := 1) rfl rfl ?_
          refine r_iconst X dX2_searchCover_83 (v := nI 1) (by decide) ?_
          refine r_iadd X dX2_searchCover_84 ?_
          rw [nI_add]
          refine r_iload_n X dX2_searchCover_85 (i := 2) rfl rfl ?_
          refine r_iconst X dX2_searchCover_86 (v := nI 1) (by decide) ?_
          refine r_iadd X dX2_searchCover_87 ?_
          refine r_callS X (ihC _ _ _ (by omega) (by first | with_reducible assumption | with_reducible rfl | omega | (with_reducible (repeat (first | assumption | refine DI_chg ?_ | refine DI_sc ?_ | refine DI_sp ?_ | refine DI_tc ?_ | refine DI_tp ?_ | refine DI_svB ?_ | refine DI_give ?_ | refine DI_tk ?_ | refine DI_keep ?_ | refine DI_cls ?_ | refine DI_clS ?_ | refine DI_clr ?_ | refine DI_scr rfl ?_)); done))) mw_X2_searchCover mi_X2_searchCover ml_X2_246 rfl rfl (Nat.le_of_ble_eq_true rfl) (by first | decide | (simp only [rmv]; omega)) (by first | decide | (simp only [rmv]; omega)) (by first | decide | (simp only [rmv]; omega)) (by first | decide | (simp only [rmv]; omega)) dX2_searchCover_88 (ko0 ?_)
          refine r_aload_n X dX2_searchCover_91 (i := 0) rfl rfl ?_
          refine r_iload_n X dX2_searchCover_92 (i := 1) rfl rfl ?_
          refine r_iload_n X dX2_searchCover_93 (i := 3) rfl rfl ?_
          refine r_callV X (c_X2_takeBack hnt hw (by first | with_reducible assumption | with_reducible rfl | omega | (with_reducible (repeat (first | assumption | refine DI_chg ?_ | refine DI_sc ?_ | refine DI_sp ?_ | refine DI_tc ?_ | refine DI_tp ?_ | refine DI_svB ?_ | refine DI_give ?_ | refine DI_tk ?_ | refine DI_keep ?_ | refine DI_cls ?_ | refine DI_clS ?_ | refine DI_clr ?_ | refine DI_scr rfl ?_)); done)) (by first | with_reducible assumption | with_reducible rfl | omega | (with_reducible (repeat (first | assumption | refine DI_chg ?_ | refine DI_sc ?_ | refine DI_sp ?_ | refine DI_tc ?_ | refine DI_tp ?_ | refine DI_svB ?_ | refine DI_give ?_ | refine DI_tk ?_ | refine DI_keep ?_ | refine DI_cls ?_ | refine DI_clS ?_ | refine DI_clr ?_ | refine DI_scr rfl ?_)); done)) (by first | with_reducible assumption | with_reducible rfl | omega | (with_reducible (repeat (first | assumption | refine DI_chg ?_ | refine DI_sc ?_ | refine DI_sp ?_ | refine DI_tc ?_ | refine DI_tp ?_ | refine DI_svB ?_ | refine DI_give ?_ | refine DI_tk ?_ | refine DI_keep ?_ | refine DI_cls ?_ | refine DI_clS ?_ | refine DI_clr ?_ | refine DI_scr rfl ?_)); done))) mw_X2_takeBack kc2 mi_X2_takeBack (hw.2 _ _ (by first | decide | (simp [cnt] <;> omega))) ev2 ml_X2_260 rfl rfl (Nat.le_of_ble_eq_true rfl) (by first | decide | (simp only [rmv]; omega)) (by first | decide | (simp only [rmv]; omega)) (by first | decide | (simp only [rmv]; omega)) (by first | decide | (simp only [rmv]; omega)) dX2_searchCover_94 (ko0 ?_)
          first | with_reducible refine r_iincn X dX2_searchCover_97 rfl (by decide) rfl ?_ | refine r_iinc1 X dX2_searchCover_97 rfl (by decide) rfl ?_
          refine r_goto X dX2_searchCover_100 (tgt := 40) (by decide) ?_
          exact ih (k + 1) _ (by omega) (by rw [itn, ← hM]; simp [scG, h1, h2, h3]) (by first | with_reducible assumption | with_reducible rfl | omega | (with_reducible (repeat (first | assumption | refine DI_chg ?_ | refine DI_sc ?_ | refine DI_sp ?_ | refine DI_tc ?_ | refine DI_tp ?_ | refine DI_svB ?_ | refine DI_give ?_ | refine DI_tk ?_ | refine DI_keep ?_ | refine DI_cls ?_ | refine DI_clS ?_ | refine DI_clr ?_ | refine DI_scr rfl ?_)); done))
set_option maxHeartbeats 4000000 in
set_option maxRecDepth 100000 in
theorem c_X2_searchCover {l : Launch} {w : Wo} {G : Lng} (hnt : l.stackTraces = false) (hw : WK w) : ∀ (d : Nat) (a : Nat) (cv : Int32) (M : Mem), a + d = 12 → DI M → CT l yX2_searchCover [Cond.code yX2_searchCover cX2_searchCover 4 none] (10 + d) 0 0 w [.ref (w.1 (2, 0)), .int (nI a), .int cv] M G (okO none (sc d a cv M) G) := by
  intro d
  induction d with
  | zero =>
    intro a cv M ha hD
    obtain rfl : a = 12 := by omega
    refine CT_of hnt hw.1 mw_X2_searchCover (by simp [Value.category]) (Nat.le_of_ble_eq_true rfl) (fun p e s m args below meth c X => ?_)
    refine r_iload_n X dX2_searchCover_0 (i := 1) rfl rfl ?_
    refine r_if_lt X dX2_searchCover_1 (tgt := 25) (by decide) (fun h1 => ?_) (fun h1 => ?_)
    · exact absurd h1 (nI_pos (by omega))
    · refine r_iload_n X dX2_searchCover_4 (i := 1) rfl rfl ?_
      refine r_bipush X dX2_searchCover_5 (v := nI 12) (by decide) ?_
      first | with_reducible refine r_icmpn_gt X dX2_searchCover_7 (tgt := 25) (by decide) (by omega) (by omega) (fun h2 => ?_) (fun h2 => ?_) | refine r_icmp_gt X dX2_searchCover_7 (tgt := 25) (by decide) (fun h2 => ?_) (fun h2 => ?_)
      · exact absurd h2 (by omega)
      · refine r_iload_n X dX2_searchCover_10 (i := 2) rfl rfl ?_
        refine r_aload_n X dX2_searchCover_11 (i := 0) rfl rfl ?_
        refine r_get X kc2 (j := 8) (hw.2 _ _ (by first | decide | (simp [cnt] <;> omega))) ev2 (by decide) rfl fl_X2_30 dX2_searchCover_12 ?_
        refine r_iload_n X dX2_searchCover_15 (i := 1) rfl rfl ?_
        refine r_iald X (hw.2 _ _ (by first | decide | (simp [cnt] <;> omega))) (evA (by decide) (by decide)) (by first | with_reducible rfl | with_reducible assumption | (rw [pk_mul, nI_add])) (by first | with_reducible assumption | (simp [alen] <;> omega)) (by decide) dX2_searchCover_16 ?_
        refine r_iadd X dX2_searchCover_17 ?_
        refine r_aload_n X dX2_searchCover_18 (i := 0) rfl rfl ?_
        refine r_get X kc2 (j := 9) (hw.2 _ _ (by first | decide | (simp [cnt] <;> omega))) ev2 (by decide) rfl fl_X2_197 dX2_searchCover_19 ?_
        first | with_reducible refine r_icmpn_gt X dX2_searchCover_22 (tgt := 26) (by decide) (by omega) (by omega) (fun h3 => ?_) (fun h3 => ?_) | refine r_icmp_gt X dX2_searchCover_22 (tgt := 26) (by decide) (fun h3 => ?_) (fun h3 => ?_)
        · refine r_iload_n X dX2_searchCover_26 (i := 1) rfl rfl ?_
          refine r_bipush X dX2_searchCover_27 (v := nI 12) (by decide) ?_
          first | with_reducible refine r_icmpn_ne X dX2_searchCover_29 (tgt := 38) (by decide) (by omega) (by omega) (fun h4 => ?_) (fun h4 => ?_) | refine r_icmp_ne X dX2_searchCover_29 (tgt := 38) (by decide) (fun h4 => ?_) (fun h4 => ?_)
          · exact absurd h4 (by omega)
          · refine r_aload_n X dX2_searchCover_32 (i := 0) rfl rfl ?_
            refine r_iload_n X dX2_searchCover_33 (i := 2) rfl rfl ?_
            refine r_callV X (c_X2_keepAsBest hnt hw ) mw_X2_keepAsBest kc2 mi_X2_keepAsBest (hw.2 _ _ (by first | decide | (simp [cnt] <;> omega))) ev2 ml_X2_253 rfl rfl (Nat.le_of_ble_eq_true rfl) (by first | decide | (simp only [rmv]; omega)) (by first | decide | (simp only [rmv]; omega)) (by first | decide | (simp only [rmv]; omega)) (by first | decide | (simp only [rmv]; omega)) dX2_searchCover_34 (ko0 ?_)
            refine r_vret X dX2_searchCover_37 (by first | decide | (simp only [rmv]; omega)) (by first | decide | (simp only [rmv]; omega)) ?_
            first | with_reducible rfl | (simp [sc, h1, h2, h3, h4]; done) | contradiction | with_reducible assumption
        · refine r_vret X dX2_searchCover_25 (by first | decide | (simp only [rmv]; omega)) (by first | decide | (simp only [rmv]; omega)) ?_
          first | with_reducible rfl | (simp [sc, h1, h2, h3]; done) | contradiction | with_reducible assumption
  | succ d ihC =>
    intro a cv M ha hD
    refine CT_of hnt hw.1 mw_X2_searchCover (by simp [Value.category]) (Nat.le_of_ble_eq_true rfl) (fun p e s m args below meth c X => ?_)
    refine r_iload_n X dX2_searchCover_0 (i := 1) rfl rfl ?_
    refine r_if_lt X dX2_searchCover_1 (tgt := 25) (by decide) (fun h1 => ?_) (fun h1 => ?_)
    · exact absurd h1 (nI_pos (by omega))
    · refine r_iload_n X dX2_searchCover_4 (i := 1) rfl rfl ?_
      refine r_bipush X dX2_searchCover_5 (v := nI 12) (by decide) ?_
      first | with_reducible refine r_icmpn_gt X dX2_searchCover_7 (tgt := 25) (by decide) (by omega) (by omega) (fun h2 => ?_) (fun h2 => ?_) | refine r_icmp_gt X dX2_searchCover_7 (tgt := 25) (by decide) (fun h2 => ?_) (fun h2 => ?_)
      · exact absurd h2 (by omega)
      · refine r_iload_n X dX2_searchCover_10 (i := 2) rfl rfl ?_
        refine r_aload_n X dX2_searchCover_11 (i := 0) rfl rfl ?_
        refine r_get X kc2 (j := 8) (hw.2 _ _ (by first | decide | (simp [cnt] <;> omega))) ev2 (by decide) rfl fl_X2_30 dX2_searchCover_12 ?_
        refine r_iload_n X dX2_searchCover_15 (i := 1) rfl rfl ?_
        refine r_iald X (hw.2 _ _ (by first | decide | (simp [cnt] <;> omega))) (evA (by decide) (by decide)) (by first | with_reducible rfl | with_reducible assumption | (rw [pk_mul, nI_add])) (by first | with_reducible assumption | (simp [alen] <;> omega)) (by decide) dX2_searchCover_16 ?_
        refine r_iadd X dX2_searchCover_17 ?_
        refine r_aload_n X dX2_searchCover_18 (i := 0) rfl rfl ?_
        refine r_get X kc2 (j := 9) (hw.2 _ _ (by first | decide | (simp [cnt] <;> omega))) ev2 (by decide) rfl fl_X2_197 dX2_searchCover_19 ?_
        first | with_reducible refine r_icmpn_gt X dX2_searchCover_22 (tgt := 26) (by decide) (by omega) (by omega) (fun h3 => ?_) (fun h3 => ?_) | refine r_icmp_gt X dX2_searchCover_22 (tgt := 26) (by decide) (fun h3 => ?_) (fun h3 => ?_)
        · refine r_iload_n X dX2_searchCover_26 (i := 1) rfl rfl ?_
          refine r_bipush X dX2_searchCover_27 (v := nI 12) (by decide) ?_
          first | with_reducible refine r_icmpn_ne X dX2_searchCover_29 (tgt := 38) (by decide) (by omega) (by omega) (fun h4 => ?_) (fun h4 => ?_) | refine r_icmp_ne X dX2_searchCover_29 (tgt := 38) (by decide) (fun h4 => ?_) (fun h4 => ?_)
          · refine r_iconst X dX2_searchCover_38 (v := nI 0) (by decide) ?_
            refine r_istore_n X dX2_searchCover_39 (i := 3) rfl (by decide) rfl ?_
            refine r_lv (lv2 := [some (.ref (w.1 (2, 0))), some (.int (nI a)), some (.int cv), some (.int (nI 0))]) (lvs_c (Or.inr rfl) (lvs_c (Or.inr rfl) (lvs_c (Or.inr rfl) (lvs_c (Or.inr rfl) lvs_n)))) ?_
            have ho : sc (d + 1) a cv M = sc d (a + 1) cv (itn (scG (sc d) a cv) 5 M) := by simp [sc, h1, h2, h3, h4]
            rw [ho]
            exact lp_X2_searchCover hnt hw X ihC ha 5 0 M rfl rfl hD
          · exact absurd h4 (by omega)
        · refine r_vret X dX2_searchCover_25 (by first | decide | (simp only [rmv]; omega)) (by first | decide | (simp only [rmv]; omega)) ?_
          first | with_reducible rfl | (simp [sc, h1, h2, h3]; done) | contradiction | with_reducible assumption

set_option maxHeartbeats 4000000 in
set_option maxRecDepth 100000 in
theorem lp_X2_searchPurchase {p : Program} {l : Launch} {e : Env} {s : State} {m : MethodId} {args : Array Value} {below : List Frame} {meth : Method} {c : Code} {w : Wo} {G : Lng} {d : Nat} {a : Nat} {cv : Int32} {M : Mem} (hnt : l.stackTraces = false) (hw : WK w) (X : Cx p l (rmv (10 + (d + 1)) 0 0) s m args meth c cX2_searchPurchase 6 yX2_searchPurchase.cls none [] w) (ihC : ∀ (a : Nat) (cv : Int32) (M : Mem), a + d = 12 → DI M → CT l yX2_searchPurchase [Cond.code yX2_searchPurchase cX2_searchPurchase 6 none] (10 + d) 0 0 w [.ref (w.1 (2, 0)), .int (nI a), .int cv] M G (okO none (sp d a cv M) G)) (ha : a + (d + 1) = 12) : ∀ (n k : Nat) (M1 : Mem), k + n = 5 → M1 = itn (spG (sp d) a cv) k M → DI M1 → VE p l e (rmv (10 + (d + 1)) 0 0) s m args below meth c 0 0 (QV w (okO none (itn (spG (sp d) a cv) 5 M) G) below args s 0 0) 6 w 54 [some (.ref (w.1 (2, 0))), some (.int (nI a)), some (.int cv), some (.int (nI k)), none, none] [] (ev w M1 G) := by
  intro n
  induction n with
  | zero =>
    intro k M1 hk hM hD1
    have hk5 : k = 5 := by omega
    subst hk5
    refine r_iload_n X dX2_searchPurchase_54 (i := 3) rfl rfl ?_
    refine r_iconst X dX2_searchPurchase_55 (v := nI 5) (by decide) ?_
    first | with_reducible refine r_icmpn_ge X dX2_searchPurchase_56 (tgt := 123) (by decide) (by omega) (by omega) (fun h1 => ?_) (fun h1 => ?_) | refine r_icmp_ge X dX2_searchPurchase_56 (tgt := 123) (by decide) (fun h1 => ?_) (fun h1 => ?_)
    · refine r_vret X dX2_searchPurchase_123 (by first | decide | (simp only [rmv]; omega)) (by first | decide | (simp only [rmv]; omega)) ?_
      first | with_reducible rfl | (simp [sp, hM, h1]; done) | contradiction | with_reducible assumption
    · exact absurd h1 (by omega)
  | succ n ih =>
    intro k M1 hk hM hD1
    refine r_iload_n X dX2_searchPurchase_54 (i := 3) rfl rfl ?_
    refine r_iconst X dX2_searchPurchase_55 (v := nI 5) (by decide) ?_
    first | with_reducible refine r_icmpn_ge X dX2_searchPurchase_56 (tgt := 123) (by decide) (by omega) (by omega) (fun h1 => ?_) (fun h1 => ?_) | refine r_icmp_ge X dX2_searchPurchase_56 (tgt := 123) (by decide) (fun h1 => ?_) (fun h1 => ?_)
    · exact absurd h1 (by omega)
    · refine r_aload_n X dX2_searchPurchase_59 (i := 0) rfl rfl ?_
      refine r_get X kc2 (j := 1) (hw.2 _ _ (by first | decide | (simp [cnt] <;> omega))) ev2 (by decide) rfl fl_X2_18 dX2_searchPurchase_60 ?_
      refine r_iload_n X dX2_searchPurchase_63 (i := 3) rfl rfl ?_
      first | refine r_aald X (t0 := 6) (hw.2 _ _ (by first | decide | (simp [cnt] <;> omega))) rfl ev4 (by first | with_reducible rfl | with_reducible assumption | (rw [pk_mul, nI_add])) (by first | with_reducible assumption | omega) (by decide) rfl dX2_searchPurchase_64 ?_ | refine r_aald X (t0 := 5) (hw.2 _ _ (by first | decide | (simp [cnt] <;> omega))) rfl ev5 (by first | with_reducible rfl | with_reducible assumption | (rw [pk_mul, nI_add])) (by first | with_reducible assumption | omega) (by decide) rfl dX2_searchPurchase_64 ?_
      refine r_astore X dX2_searchPurchase_65 (by decide) rfl ?_
      refine r_aload X dX2_searchPurchase_67 rfl ?_
      refine r_aload_n X dX2_searchPurchase_69 (i := 0) rfl rfl ?_
      refine r_get X kc2 (j := 0) (hw.2 _ _ (by first | decide | (simp [cnt] <;> omega))) ev2 (by decide) rfl fl_X2_11 dX2_searchPurchase_70 ?_
      refine r_iload_n X dX2_searchPurchase_73 (i := 1) rfl rfl ?_
      first | refine r_aald X (t0 := 6) (hw.2 _ _ (by first | decide | (simp [cnt] <;> omega))) rfl ev4 (by first | with_reducible rfl | with_reducible assumption | (rw [pk_mul, nI_add])) (by first | with_reducible assumption | omega) (by decide) rfl dX2_searchPurchase_74 ?_ | refine r_aald X (t0 := 5) (hw.2 _ _ (by first | decide | (simp [cnt] <;> omega))) rfl ev5 (by first | with_reducible rfl | with_reducible assumption | (rw [pk_mul, nI_add])) (by first | with_reducible assumption | omega) (by decide) rfl dX2_searchPurchase_74 ?_
      refine r_callVN X (c_X0_fits hnt hw (by first | with_reducible assumption | with_reducible rfl | omega | (with_reducible (repeat (first | assumption | refine DI_chg ?_ | refine DI_sc ?_ | refine DI_sp ?_ | refine DI_tc ?_ | refine DI_tp ?_ | refine DI_svB ?_ | refine DI_give ?_ | refine DI_tk ?_ | refine DI_keep ?_ | refine DI_cls ?_ | refine DI_clS ?_ | refine DI_clr ?_ | refine DI_scr rfl ?_)); done)) (by first | with_reducible assumption | with_reducible rfl | omega | (with_reducible (repeat (first | assumption | refine DI_chg ?_ | refine DI_sc ?_ | refine DI_sp ?_ | refine DI_tc ?_ | refine DI_tp ?_ | refine DI_svB ?_ | refine DI_give ?_ | refine DI_tk ?_ | refine DI_keep ?_ | refine DI_cls ?_ | refine DI_clS ?_ | refine DI_clr ?_ | refine DI_scr rfl ?_)); done))) mw_X0_fits kc0 mi_X0_fits (hw.2 _ _ (by first | decide | (simp [cnt] <;> omega))) ev0 ml_X2_165 rfl rfl (Nat.le_of_ble_eq_true rfl) (by first | decide | (simp only [rmv]; omega)) (by first | decide | (simp only [rmv]; omega)) (by first | decide | (simp only [rmv]; omega)) (by first | decide | (simp only [rmv]; omega)) dX2_searchPurchase_75 (ko1 ?_)
      first | with_reducible refine r_ifb_eq X dX2_searchPurchase_78 (tgt := 117) (by decide) (fun h2 => ?_) (fun h2 => ?_) | refine r_if_eq X dX2_searchPurchase_78 (tgt := 117) (by decide) (fun h2 => ?_) (fun h2 => ?_)
      · first | with_reducible refine r_iincn X dX2_searchPurchase_117 rfl (by decide) rfl ?_ | refine r_iinc1 X dX2_searchPurchase_117 rfl (by decide) rfl ?_
        refine r_goto X dX2_searchPurchase_120 (tgt := 54) (by decide) ?_
        refine r_lv (lv2 := [some (.ref (w.1 (2, 0))), some (.int (nI a)), some (.int cv), some (.int (nI (k + 1))), none, none]) (lvs_c (Or.inr rfl) (lvs_c (Or.inr rfl) (lvs_c (Or.inr rfl) (lvs_c (Or.inr rfl) (lvs_c (Or.inl rfl) (lvs_c (Or.inl rfl) lvs_n)))))) ?_
        exact ih (k + 1) _ (by omega) (by rw [itn, ← hM]; simp [spG, mpr, h1, h2]) (by first | with_reducible assumption | with_reducible rfl | omega | (with_reducible (repeat (first | assumption | refine DI_chg ?_ | refine DI_sc ?_ | refine DI_sp ?_ | refine DI_tc ?_ | refine DI_tp ?_ | refine DI_svB ?_ | refine DI_give ?_ | refine DI_tk ?_ | refine DI_keep ?_ | refine DI_cls ?_ | refine DI_clS ?_ | refine DI_clr ?_ | refine DI_scr rfl ?_)); done))
      · refine r_iload_n X dX2_searchPurchase_81 (i := 2) rfl rfl ?_
        refine r_aload X dX2_searchPurchase_82 rfl ?_
        refine r_callVN X (c_X0_missingPrice hnt hw (by first | with_reducible assumption | with_reducible rfl | omega | (with_reducible (repeat (first | assumption | refine DI_chg ?_ | refine DI_sc ?_ | refine DI_sp ?_ | refine DI_tc ?_ | refine DI_tp ?_ | refine DI_svB ?_ | refine DI_give ?_ | refine DI_tk ?_ | refine DI_keep ?_ | refine DI_cls ?_ | refine DI_clS ?_ | refine DI_clr ?_ | refine DI_scr rfl ?_)); done))) mw_X0_missingPrice kc0 mi_X0_missingPrice (hw.2 _ _ (by first | decide | (simp [cnt] <;> omega))) ev0 ml_X2_263 rfl rfl (Nat.le_of_ble_eq_true rfl) (by first | decide | (simp only [rmv]; omega)) (by first | decide | (simp only [rmv]; omega)) (by first | decide | (simp only [rmv]; omega)) (by first | decide | (simp only [rmv]; omega)) dX2_searchPurchase_84 (ko1 ?_)
        refine r_isub X dX2_searchPurchase_87 ?_
        refine r_istore X dX2_searchPurchase_88 (by decide) rfl ?_
        refine r_aload_n X dX2_searchPurchase_90 (i := 0) rfl rfl ?_
        refine r_iload_n X dX2_searchPurchase_91 (i := 1) rfl rfl ?_
        refine r_iload_n X dX2_searchPurchase_92 (i := 3) rfl rfl ?_
        refine r_callV X (c_X2_give hnt hw (by first | with_reducible assumption | with_reducible rfl | omega | (with_reducible (repeat (first | assumption | refine DI_chg ?_ | refine DI_sc ?_ | refine DI_sp ?_ | refine DI_tc ?_ | refine DI_tp ?_ | refine DI_svB ?_ | refine DI_give ?_ | refine DI_tk ?_ | refine DI_keep ?_ | refine DI_cls ?_ | refine DI_clS ?_ | refine DI_clr ?_ | refine DI_scr rfl ?_)); done)) (by first | with_reducible assumption | with_reducible rfl | omega | (with_reducible (repeat (first | assumption | refine DI_chg ?_ | refine DI_sc ?_ | refine DI_sp ?_ | refine DI_tc ?_ | refine DI_tp ?_ | refine DI_svB ?_ | refine DI_give ?_ | refine DI_tk ?_ | refine DI_keep ?_ | refine DI_cls ?_ | refine DI_clS ?_ | refine DI_clr ?_ | refine DI_scr rfl ?_)); done)) (by first | with_reducible assumption | with_reducible rfl | omega | (with_reducible (repeat (first | assumption | refine DI_chg ?_ | refine DI_sc ?_ | refine DI_sp ?_ | refine DI_tc ?_ | refine DI_tp ?_ | refine DI_svB ?_ | refine DI_give ?_ | refine DI_tk ?_ | refine DI_keep ?_ | refine DI_cls ?_ | refine DI_clS ?_ | refine DI_clr ?_ | refine DI_scr rfl ?_)); done))) mw_X2_give kc2 mi_X2_give (hw.2 _ _ (by first | decide | (simp [cnt] <;> omega))) ev2 ml_X2_256 rfl rfl (Nat.le_of_ble_eq_true rfl) (by first | decide | (simp only [rmv]; omega)) (by first | decide | (simp only [rmv]; omega)) (by first | decide | (simp only [rmv]; omega)) (by first | decide | (simp only [rmv]; omega)) dX2_searchPurchase_93 (ko0 ?_)
        refine r_aload_n X dX2_searchPurchase_96 (i := 0) rfl rfl ?_
        refine r_iload_n X dX2_searchPurchase_97 (i := 1) rfl rfl ?_
        refine r_iconst X dX2_searchPurchase_98 (v := nI 1) (by decide) ?_
        refine r_iadd X dX2_searchPurchase_99 ?_
        rw [nI_add]
        refine r_iload X dX2_searchPurchase_100 rfl ?_
        refine r_aload X dX2_searchPurchase_102 rfl ?_
        refine r_callVN X (c_X0_missingPrice hnt hw (by first | with_reducible assumption | with_reducible rfl | omega | (with_reducible (repeat (first | assumption | refine DI_chg ?_ | refine DI_sc ?_ | refine DI_sp ?_ | refine DI_tc ?_ | refine DI_tp ?_ | refine DI_svB ?_ | refine DI_give ?_ | refine DI_tk ?_ | refine DI_keep ?_ | refine DI_cls ?_ | refine DI_clS ?_ | refine DI_clr ?_ | refine DI_scr rfl ?_)); done))) mw_X0_missingPrice kc0 mi_X0_missingPrice (hw.2 _ _ (by first | decide | (simp [cnt] <;> omega))) ev0 ml_X2_263 rfl rfl (Nat.le_of_ble_eq_true rfl) (by first | decide | (simp only [rmv]; omega)) (by first | decide | (simp only [rmv]; omega)) (by first | decide | (simp only [rmv]; omega)) (by first | decide | (simp only [rmv]; omega)) dX2_searchPurchase_104 (ko1 ?_)
        refine r_iadd X dX2_searchPurchase_107 ?_
        refine r_callS X (ihC _ _ _ (by omega) (by first | with_reducible assumption | with_reducible rfl | omega | (with_reducible (repeat (first | assumption | refine DI_chg ?_ | refine DI_sc ?_ | refine DI_sp ?_ | refine DI_tc ?_ | refine DI_tp ?_ | refine DI_svB ?_ | refine DI_give ?_ | refine DI_tk ?_ | refine DI_keep ?_ | refine DI_cls ?_ | refine DI_clS ?_ | refine DI_clr ?_ | refine DI_scr rfl ?_)); done))) mw_X2_searchPurchase mi_X2_searchPurchase ml_X2_250 rfl rfl (Nat.le_of_ble_eq_true rfl) (by first | decide | (simp only [rmv]; omega)) (by first | decide | (simp only [rmv]; omega)) (by first | decide | (simp only [rmv]; omega)) (by first | decide | (simp only [rmv]; omega)) dX2_searchPurchase_108 (ko0 ?_)
        refine r_aload_n X dX2_searchPurchase_111 (i := 0) rfl rfl ?_
        refine r_iload_n X dX2_searchPurchase_112 (i := 1) rfl rfl ?_
        refine r_iload_n X dX2_searchPurchase_113 (i := 3) rfl rfl ?_
        refine r_callV X (c_X2_takeBack hnt hw (by first | with_reducible assumption | with_reducible rfl | omega | (with_reducible (repeat (first | assumption | refine DI_chg ?_ | refine DI_sc ?_ | refine DI_sp ?_ | refine DI_tc ?_ | refine DI_tp ?_ | refine DI_svB ?_ | refine DI_give ?_ | refine DI_tk ?_ | refine DI_keep ?_ | refine DI_cls ?_ | refine DI_clS ?_ | refine DI_clr ?_ | refine DI_scr rfl ?_)); done)) (by first | with_reducible assumption | with_reducible rfl | omega | (with_reducible (repeat (first | assumption | refine DI_chg ?_ | refine DI_sc ?_ | refine DI_sp ?_ | refine DI_tc ?_ | refine DI_tp ?_ | refine DI_svB ?_ | refine DI_give ?_ | refine DI_tk ?_ | refine DI_keep ?_ | refine DI_cls ?_ | refine DI_clS ?_ | refine DI_clr ?_ | refine DI_scr rfl ?_)); done)) (by first | with_reducible assumption | with_reducible rfl | omega | (with_reducible (repeat (first | assumption | refine DI_chg ?_ | refine DI_sc ?_ | refine DI_sp ?_ | refine DI_tc ?_ | refine DI_tp ?_ | refine DI_svB ?_ | refine DI_give ?_ | refine DI_tk ?_ | refine DI_keep ?_ | refine DI_cls ?_ | refine DI_clS ?_ | refine DI_clr ?_ | refine DI_scr rfl ?_)); done))) mw_X2_takeBack kc2 mi_X2_takeBack (hw.2 _ _ (by first | decide | (simp [cnt] <;> omega))) ev2 ml_X2_260 rfl rfl (Nat.le_of_ble_eq_true rfl) (by first | decide | (simp only [rmv]; omega)) (by first | decide | (simp only [rmv]; omega)) (by first | decide | (simp only [rmv]; omega)) (by first | decide | (simp only [rmv]; omega)) dX2_searchPurchase_114 (ko0 ?_)
        first | with_reducible refine r_iincn X dX2_searchPurchase_117 rfl (by decide) rfl ?_ | refine r_iinc1 X dX2_searchPurchase_117 rfl (by decide) rfl ?_
        refine r_goto X dX2_searchPurchase_120 (tgt := 54) (by decide) ?_
        refine r_lv (lv2 := [some (.ref (w.1 (2, 0))), some (.int (nI a)), some (.int cv), some (.int (nI (k + 1))), none, none]) (lvs_c (Or.inr rfl) (lvs_c (Or.inr rfl) (lvs_c (Or.inr rfl) (lvs_c (Or.inr rfl) (lvs_c (Or.inl rfl) (lvs_c (Or.inl rfl) lvs_n)))))) ?_
        exact ih (k + 1) _ (by omega) (by rw [itn, ← hM]; simp [spG, mpr, h1, h2]) (by first | with_reducible assumption | with_reducible rfl | omega | (with_reducible (repeat (first | assumption | refine DI_chg ?_ | refine DI_sc ?_ | refine DI_sp ?_ | refine DI_tc ?_ | refine DI_tp ?_ | refine DI_svB ?_ | refine DI_give ?_ | refine DI_tk ?_ | refine DI_keep ?_ | refine DI_cls ?_ | refine DI_clS ?_ | refine DI_clr ?_ | refine DI_scr rfl ?_)); done))
set_option maxHeartbeats 4000000 in
set_option maxRecDepth 100000 in
theorem c_X2_searchPurchase {l : Launch} {w : Wo} {G : Lng} (hnt : l.stackTraces = false) (hw : WK w) : ∀ (d : Nat) (a : Nat) (cv : Int32) (M : Mem), a + d = 12 → DI M → CT l yX2_searchPurchase [Cond.code yX2_searchPurchase cX2_searchPurchase 6 none] (10 + d) 0 0 w [.ref (w.1 (2, 0)), .int (nI a), .int cv] M G (okO none (sp d a cv M) G) := by
  intro d
  induction d with
  | zero =>
    intro a cv M ha hD
    obtain rfl : a = 12 := by omega
    refine CT_of hnt hw.1 mw_X2_searchPurchase (by simp [Value.category]) (Nat.le_of_ble_eq_true rfl) (fun p e s m args below meth c X => ?_)
    refine r_iload_n X dX2_searchPurchase_0 (i := 1) rfl rfl ?_
    refine r_if_lt X dX2_searchPurchase_1 (tgt := 18) (by decide) (fun h1 => ?_) (fun h1 => ?_)
    · exact absurd h1 (nI_pos (by omega))
    · refine r_iload_n X dX2_searchPurchase_4 (i := 1) rfl rfl ?_
      refine r_bipush X dX2_searchPurchase_5 (v := nI 12) (by decide) ?_
      first | with_reducible refine r_icmpn_gt X dX2_searchPurchase_7 (tgt := 18) (by decide) (by omega) (by omega) (fun h2 => ?_) (fun h2 => ?_) | refine r_icmp_gt X dX2_searchPurchase_7 (tgt := 18) (by decide) (fun h2 => ?_) (fun h2 => ?_)
      · exact absurd h2 (by omega)
      · refine r_iload_n X dX2_searchPurchase_10 (i := 2) rfl rfl ?_
        refine r_aload_n X dX2_searchPurchase_11 (i := 0) rfl rfl ?_
        refine r_get X kc2 (j := 9) (hw.2 _ _ (by first | decide | (simp [cnt] <;> omega))) ev2 (by decide) rfl fl_X2_197 dX2_searchPurchase_12 ?_
        first | with_reducible refine r_icmpn_lt X dX2_searchPurchase_15 (tgt := 19) (by decide) (by omega) (by omega) (fun h3 => ?_) (fun h3 => ?_) | refine r_icmp_lt X dX2_searchPurchase_15 (tgt := 19) (by decide) (fun h3 => ?_) (fun h3 => ?_)
        · refine r_iload_n X dX2_searchPurchase_19 (i := 1) rfl rfl ?_
          refine r_bipush X dX2_searchPurchase_20 (v := nI 12) (by decide) ?_
          first | with_reducible refine r_icmpn_ne X dX2_searchPurchase_22 (tgt := 31) (by decide) (by omega) (by omega) (fun h4 => ?_) (fun h4 => ?_) | refine r_icmp_ne X dX2_searchPurchase_22 (tgt := 31) (by decide) (fun h4 => ?_) (fun h4 => ?_)
          · exact absurd h4 (by omega)
          · refine r_aload_n X dX2_searchPurchase_25 (i := 0) rfl rfl ?_
            refine r_iload_n X dX2_searchPurchase_26 (i := 2) rfl rfl ?_
            refine r_callV X (c_X2_keepAsBest hnt hw ) mw_X2_keepAsBest kc2 mi_X2_keepAsBest (hw.2 _ _ (by first | decide | (simp [cnt] <;> omega))) ev2 ml_X2_253 rfl rfl (Nat.le_of_ble_eq_true rfl) (by first | decide | (simp only [rmv]; omega)) (by first | decide | (simp only [rmv]; omega)) (by first | decide | (simp only [rmv]; omega)) (by first | decide | (simp only [rmv]; omega)) dX2_searchPurchase_27 (ko0 ?_)
            refine r_vret X dX2_searchPurchase_30 (by first | decide | (simp only [rmv]; omega)) (by first | decide | (simp only [rmv]; omega)) ?_
            first | with_reducible rfl | (simp [sp, h1, h2, h3, h4]; done) | contradiction | with_reducible assumption
        · refine r_vret X dX2_searchPurchase_18 (by first | decide | (simp only [rmv]; omega)) (by first | decide | (simp only [rmv]; omega)) ?_
          first | with_reducible rfl | (simp [sp, h1, h2, h3]; done) | contradiction | with_reducible assumption
  | succ d ihC =>
    intro a cv M ha hD
    refine CT_of hnt hw.1 mw_X2_searchPurchase (by simp [Value.category]) (Nat.le_of_ble_eq_true rfl) (fun p e s m args below meth c X => ?_)
    refine r_iload_n X dX2_searchPurchase_0 (i := 1) rfl rfl ?_
    refine r_if_lt X dX2_searchPurchase_1 (tgt := 18) (by decide) (fun h1 => ?_) (fun h1 => ?_)
    · exact absurd h1 (nI_pos (by omega))
    · refine r_iload_n X dX2_searchPurchase_4 (i := 1) rfl rfl ?_
      refine r_bipush X dX2_searchPurchase_5 (v := nI 12) (by decide) ?_
      first | with_reducible refine r_icmpn_gt X dX2_searchPurchase_7 (tgt := 18) (by decide) (by omega) (by omega) (fun h2 => ?_) (fun h2 => ?_) | refine r_icmp_gt X dX2_searchPurchase_7 (tgt := 18) (by decide) (fun h2 => ?_) (fun h2 => ?_)
      · exact absurd h2 (by omega)
      · refine r_iload_n X dX2_searchPurchase_10 (i := 2) rfl rfl ?_
        refine r_aload_n X dX2_searchPurchase_11 (i := 0) rfl rfl ?_
        refine r_get X kc2 (j := 9) (hw.2 _ _ (by first | decide | (simp [cnt] <;> omega))) ev2 (by decide) rfl fl_X2_197 dX2_searchPurchase_12 ?_
        first | with_reducible refine r_icmpn_lt X dX2_searchPurchase_15 (tgt := 19) (by decide) (by omega) (by omega) (fun h3 => ?_) (fun h3 => ?_) | refine r_icmp_lt X dX2_searchPurchase_15 (tgt := 19) (by decide) (fun h3 => ?_) (fun h3 => ?_)
        · refine r_iload_n X dX2_searchPurchase_19 (i := 1) rfl rfl ?_
          refine r_bipush X dX2_searchPurchase_20 (v := nI 12) (by decide) ?_
          first | with_reducible refine r_icmpn_ne X dX2_searchPurchase_22 (tgt := 31) (by decide) (by omega) (by omega) (fun h4 => ?_) (fun h4 => ?_) | refine r_icmp_ne X dX2_searchPurchase_22 (tgt := 31) (by decide) (fun h4 => ?_) (fun h4 => ?_)
          · refine r_aload_n X dX2_searchPurchase_31 (i := 0) rfl rfl ?_
            refine r_get X kc2 (j := 0) (hw.2 _ _ (by first | decide | (simp [cnt] <;> omega))) ev2 (by decide) rfl fl_X2_11 dX2_searchPurchase_32 ?_
            refine r_iload_n X dX2_searchPurchase_35 (i := 1) rfl rfl ?_
            first | refine r_aald X (t0 := 6) (hw.2 _ _ (by first | decide | (simp [cnt] <;> omega))) rfl ev4 (by first | with_reducible rfl | with_reducible assumption | (rw [pk_mul, nI_add])) (by first | with_reducible assumption | omega) (by decide) rfl dX2_searchPurchase_36 ?_ | refine r_aald X (t0 := 5) (hw.2 _ _ (by first | decide | (simp [cnt] <;> omega))) rfl ev5 (by first | with_reducible rfl | with_reducible assumption | (rw [pk_mul, nI_add])) (by first | with_reducible assumption | omega) (by decide) rfl dX2_searchPurchase_36 ?_
            refine r_getN X kc1 (j := 0) (hw.2 _ _ (by first | decide | (simp [cnt] <;> omega))) ev1 (by decide) rfl fl_X2_75 dX2_searchPurchase_37 ?_
            first | with_reducible refine r_ifb_ne X dX2_searchPurchase_40 (tgt := 52) (by decide) (fun h5 => ?_) (fun h5 => ?_) | refine r_if_ne X dX2_searchPurchase_40 (tgt := 52) (by decide) (fun h5 => ?_) (fun h5 => ?_)
            · refine r_iconst X dX2_searchPurchase_52 (v := nI 0) (by decide) ?_
              refine r_istore_n X dX2_searchPurchase_53 (i := 3) rfl (by decide) rfl ?_
              refine r_lv (lv2 := [some (.ref (w.1 (2, 0))), some (.int (nI a)), some (.int cv), some (.int (nI 0)), none, none]) (lvs_c (Or.inr rfl) (lvs_c (Or.inr rfl) (lvs_c (Or.inr rfl) (lvs_c (Or.inr rfl) (lvs_c (Or.inl rfl) (lvs_c (Or.inl rfl) lvs_n)))))) ?_
              have ho : sp (d + 1) a cv M = itn (spG (sp d) a cv) 5 M := by simp [sp, h1, h2, h3, h4, h5]
              rw [ho]
              exact lp_X2_searchPurchase hnt hw X ihC ha 5 0 M rfl rfl hD
            · refine r_aload_n X dX2_searchPurchase_43 (i := 0) rfl rfl ?_
              refine r_iload_n X dX2_searchPurchase_44 (i := 1) rfl rfl ?_
              refine r_iconst X dX2_searchPurchase_45 (v := nI 1) (by decide) ?_
              refine r_iadd X dX2_searchPurchase_46 ?_
              rw [nI_add]
              refine r_iload_n X dX2_searchPurchase_47 (i := 2) rfl rfl ?_
              refine r_callS X (ihC _ _ _ (by omega) (by first | with_reducible assumption | with_reducible rfl | omega | (with_reducible (repeat (first | assumption | refine DI_chg ?_ | refine DI_sc ?_ | refine DI_sp ?_ | refine DI_tc ?_ | refine DI_tp ?_ | refine DI_svB ?_ | refine DI_give ?_ | refine DI_tk ?_ | refine DI_keep ?_ | refine DI_cls ?_ | refine DI_clS ?_ | refine DI_clr ?_ | refine DI_scr rfl ?_)); done))) mw_X2_searchPurchase mi_X2_searchPurchase ml_X2_250 rfl rfl (Nat.le_of_ble_eq_true rfl) (by first | decide | (simp only [rmv]; omega)) (by first | decide | (simp only [rmv]; omega)) (by first | decide | (simp only [rmv]; omega)) (by first | decide | (simp only [rmv]; omega)) dX2_searchPurchase_48 (ko0 ?_)
              refine r_vret X dX2_searchPurchase_51 (by first | decide | (simp only [rmv]; omega)) (by first | decide | (simp only [rmv]; omega)) ?_
              first | with_reducible rfl | (simp [sp, h1, h2, h3, h4, h5]; done) | contradiction | with_reducible assumption
          · exact absurd h4 (by omega)
        · refine r_vret X dX2_searchPurchase_18 (by first | decide | (simp only [rmv]; omega)) (by first | decide | (simp only [rmv]; omega)) ?_
          first | with_reducible rfl | (simp [sp, h1, h2, h3]; done) | contradiction | with_reducible assumption

set_option maxHeartbeats 4000000 in
set_option maxRecDepth 100000 in
theorem lp_X2_tryCovers {p : Program} {l : Launch} {e : Env} {s : State} {m : MethodId} {args : Array Value} {below : List Frame} {meth : Method} {c : Code} {w : Wo} {G : Lng} {d : Nat} {a : Nat} {M : Mem} (hnt : l.stackTraces = false) (hw : WK w) (X : Cx p l (rmv (10 + (d + 1)) 0 0) s m args meth c cX2_tryCovers 3 yX2_tryCovers.cls none [] w) (ihC : ∀ (a : Nat) (M : Mem), a + d = 12 → DI M → CT l yX2_tryCovers [Cond.code yX2_tryCovers cX2_tryCovers 3 none] (10 + d) 0 0 w [.ref (w.1 (2, 0)), .int (nI a)] M G (okO none (tc d a M) G)) (ha : a + (d + 1) = 12) : ∀ (n k : Nat) (M1 : Mem), k + n = 5 → M1 = itn (tcG (tc d) a) k M → DI M1 → VE p l e (rmv (10 + (d + 1)) 0 0) s m args below meth c 0 0 (QV w (okO none (tc d (a + 1) (itn (tcG (tc d) a) 5 M)) G) below args s 0 0) 3 w 38 [some (.ref (w.1 (2, 0))), some (.int (nI a)), some (.int (nI k))] [] (ev w M1 G) := by
  intro n
  induction n with
  | zero =>
    intro k M1 hk hM hD1
    have hk5 : k = 5 := by omega
    subst hk5
    refine r_iload_n X dX2_tryCovers_38 (i := 2) rfl rfl ?_
    refine r_iconst X dX2_tryCovers_39 (v := nI 5) (by decide) ?_
    first | with_reducible refine r_icmpn_ge X dX2_tryCovers_40 (tgt := 86) (by decide) (by omega) (by omega) (fun h1 => ?_) (fun h1 => ?_) | refine r_icmp_ge X dX2_tryCovers_40 (tgt := 86) (by decide) (fun h1 => ?_) (fun h1 => ?_)
    · refine r_aload_n X dX2_tryCovers_86 (i := 0) rfl rfl ?_
      refine r_iload_n X dX2_tryCovers_87 (i := 1) rfl rfl ?_
      refine r_iconst X dX2_tryCovers_88 (v := nI 1) (by decide) ?_
      refine r_iadd X dX2_tryCovers_89 ?_
      rw [nI_add]
      refine r_callS X (ihC _ _ (by omega) (by first | with_reducible assumption | with_reducible rfl | omega | (with_reducible (repeat (first | assumption | refine DI_chg ?_ | refine DI_sc ?_ | refine DI_sp ?_ | refine DI_tc ?_ | refine DI_tp ?_ | refine DI_svB ?_ | refine DI_give ?_ | refine DI_tk ?_ | refine DI_keep ?_ | refine DI_cls ?_ | refine DI_clS ?_ | refine DI_clr ?_ | refine DI_scr rfl ?_)); done))) mw_X2_tryCovers mi_X2_tryCovers ml_X2_193 rfl rfl (Nat.le_of_ble_eq_true rfl) (by first | decide | (simp only [rmv]; omega)) (by first | decide | (simp only [rmv]; omega)) (by first | decide | (simp only [rmv]; omega)) (by first | decide | (simp only [rmv]; omega)) dX2_tryCovers_90 (ko0 ?_)
      refine r_vret X dX2_tryCovers_93 (by first | decide | (simp only [rmv]; omega)) (by first | decide | (simp only [rmv]; omega)) ?_
      first | with_reducible rfl | (simp [tc, hM, h1]; done) | contradiction | with_reducible assumption
    · exact absurd h1 (by omega)
  | succ n ih =>
    intro k M1 hk hM hD1
    refine r_iload_n X dX2_tryCovers_38 (i := 2) rfl rfl ?_
    refine r_iconst X dX2_tryCovers_39 (v := nI 5) (by decide) ?_
    first | with_reducible refine r_icmpn_ge X dX2_tryCovers_40 (tgt := 86) (by decide) (by omega) (by omega) (fun h1 => ?_) (fun h1 => ?_) | refine r_icmp_ge X dX2_tryCovers_40 (tgt := 86) (by decide) (fun h1 => ?_) (fun h1 => ?_)
    · exact absurd h1 (by omega)
    · refine r_aload_n X dX2_tryCovers_43 (i := 0) rfl rfl ?_
      refine r_get X kc2 (j := 1) (hw.2 _ _ (by first | decide | (simp [cnt] <;> omega))) ev2 (by decide) rfl fl_X2_18 dX2_tryCovers_44 ?_
      refine r_iload_n X dX2_tryCovers_47 (i := 2) rfl rfl ?_
      first | refine r_aald X (t0 := 6) (hw.2 _ _ (by first | decide | (simp [cnt] <;> omega))) rfl ev4 (by first | with_reducible rfl | with_reducible assumption | (rw [pk_mul, nI_add])) (by first | with_reducible assumption | omega) (by decide) rfl dX2_tryCovers_48 ?_ | refine r_aald X (t0 := 5) (hw.2 _ _ (by first | decide | (simp [cnt] <;> omega))) rfl ev5 (by first | with_reducible rfl | with_reducible assumption | (rw [pk_mul, nI_add])) (by first | with_reducible assumption | omega) (by decide) rfl dX2_tryCovers_48 ?_
      refine r_aload_n X dX2_tryCovers_49 (i := 0) rfl rfl ?_
      refine r_get X kc2 (j := 0) (hw.2 _ _ (by first | decide | (simp [cnt] <;> omega))) ev2 (by decide) rfl fl_X2_11 dX2_tryCovers_50 ?_
      refine r_iload_n X dX2_tryCovers_53 (i := 1) rfl rfl ?_
      first | refine r_aald X (t0 := 6) (hw.2 _ _ (by first | decide | (simp [cnt] <;> omega))) rfl ev4 (by first | with_reducible rfl | with_reducible assumption | (rw [pk_mul, nI_add])) (by first | with_reducible assumption | omega) (by decide) rfl dX2_tryCovers_54 ?_ | refine r_aald X (t0 := 5) (hw.2 _ _ (by first | decide | (simp [cnt] <;> omega))) rfl ev5 (by first | with_reducible rfl | with_reducible assumption | (rw [pk_mul, nI_add])) (by first | with_reducible assumption | omega) (by decide) rfl dX2_tryCovers_54 ?_
      refine r_callVN X (c_X0_fits hnt hw (by first | with_reducible assumption | with_reducible rfl | omega | (with_reducible (repeat (first | assumption | refine DI_chg ?_ | refine DI_sc ?_ | refine DI_sp ?_ | refine DI_tc ?_ | refine DI_tp ?_ | refine DI_svB ?_ | refine DI_give ?_ | refine DI_tk ?_ | refine DI_keep ?_ | refine DI_cls ?_ | refine DI_clS ?_ | refine DI_clr ?_ | refine DI_scr rfl ?_)); done)) (by first | with_reducible assumption | with_reducible rfl | omega | (with_reducible (repeat (first | assumption | refine DI_chg ?_ | refine DI_sc ?_ | refine DI_sp ?_ | refine DI_tc ?_ | refine DI_tp ?_ | refine DI_svB ?_ | refine DI_give ?_ | refine DI_tk ?_ | refine DI_keep ?_ | refine DI_cls ?_ | refine DI_clS ?_ | refine DI_clr ?_ | refine DI_scr rfl ?_)); done))) mw_X0_fits kc0 mi_X0_fits (hw.2 _ _ (by first | decide | (simp [cnt] <;> omega))) ev0 ml_X2_165 rfl rfl (Nat.le_of_ble_eq_true rfl) (by first | decide | (simp only [rmv]; omega)) (by first | decide | (simp only [rmv]; omega)) (by first | decide | (simp only [rmv]; omega)) (by first | decide | (simp only [rmv]; omega)) dX2_tryCovers_55 (ko1 ?_)
      first | with_reducible refine r_ifb_eq X dX2_tryCovers_58 (tgt := 80) (by decide) (fun h2 => ?_) (fun h2 => ?_) | refine r_if_eq X dX2_tryCovers_58 (tgt := 80) (by decide) (fun h2 => ?_) (fun h2 => ?_)
      · first | with_reducible refine r_iincn X dX2_tryCovers_80 rfl (by decide) rfl ?_ | refine r_iinc1 X dX2_tryCovers_80 rfl (by decide) rfl ?_
        refine r_goto X dX2_tryCovers_83 (tgt := 38) (by decide) ?_
        exact ih (k + 1) _ (by omega) (by rw [itn, ← hM]; simp [tcG, h1, h2]) (by first | with_reducible assumption | with_reducible rfl | omega | (with_reducible (repeat (first | assumption | refine DI_chg ?_ | refine DI_sc ?_ | refine DI_sp ?_ | refine DI_tc ?_ | refine DI_tp ?_ | refine DI_svB ?_ | refine DI_give ?_ | refine DI_tk ?_ | refine DI_keep ?_ | refine DI_cls ?_ | refine DI_clS ?_ | refine DI_clr ?_ | refine DI_scr rfl ?_)); done))
      · refine r_aload_n X dX2_tryCovers_61 (i := 0) rfl rfl ?_
        refine r_iload_n X dX2_tryCovers_62 (i := 1) rfl rfl ?_
        refine r_iload_n X dX2_tryCovers_63 (i := 2) rfl rfl ?_
        refine r_callV X (c_X2_give hnt hw (by first | with_reducible assumption | with_reducible rfl | omega | (with_reducible (repeat (first | assumption | refine DI_chg ?_ | refine DI_sc ?_ | refine DI_sp ?_ | refine DI_tc ?_ | refine DI_tp ?_ | refine DI_svB ?_ | refine DI_give ?_ | refine DI_tk ?_ | refine DI_keep ?_ | refine DI_cls ?_ | refine DI_clS ?_ | refine DI_clr ?_ | refine DI_scr rfl ?_)); done)) (by first | with_reducible assumption | with_reducible rfl | omega | (with_reducible (repeat (first | assumption | refine DI_chg ?_ | refine DI_sc ?_ | refine DI_sp ?_ | refine DI_tc ?_ | refine DI_tp ?_ | refine DI_svB ?_ | refine DI_give ?_ | refine DI_tk ?_ | refine DI_keep ?_ | refine DI_cls ?_ | refine DI_clS ?_ | refine DI_clr ?_ | refine DI_scr rfl ?_)); done)) (by first | with_reducible assumption | with_reducible rfl | omega | (with_reducible (repeat (first | assumption | refine DI_chg ?_ | refine DI_sc ?_ | refine DI_sp ?_ | refine DI_tc ?_ | refine DI_tp ?_ | refine DI_svB ?_ | refine DI_give ?_ | refine DI_tk ?_ | refine DI_keep ?_ | refine DI_cls ?_ | refine DI_clS ?_ | refine DI_clr ?_ | refine DI_scr rfl ?_)); done))) mw_X2_give kc2 mi_X2_give (hw.2 _ _ (by first | decide | (simp [cnt] <;> omega))) ev2 ml_X2_256 rfl rfl (Nat.le_of_ble_eq_true rfl) (by first | decide | (simp only [rmv]; omega)) (by first | decide | (simp only [rmv]; omega)) (by first | decide | (simp only [rmv]; omega)) (by first | decide | (simp only [rmv]; omega)) dX2_tryCovers_64 (ko0 ?_)
        refine r_aload_n X dX2_tryCovers_67 (i := 0) rfl rfl ?_
        refine r_iload_n X dX2_tryCovers_68 (i := 1) rfl rfl ?_
        refine r_iconst X dX2_tryCovers_69 (v := nI 1) (by decide) ?_
        refine r_iadd X dX2_tryCovers_70 ?_
        rw [nI_add]
        refine r_callS X (ihC _ _ (by omega) (by first | with_reducible assumption | with_reducible rfl | omega | (with_reducible (repeat (first | assumption | refine DI_chg ?_ | refine DI_sc ?_ | refine DI_sp ?_ | refine DI_tc ?_ | refine DI_tp ?_ | refine DI_svB ?_ | refine DI_give ?_ | refine DI_tk ?_ | refine DI_keep ?_ | refine DI_cls ?_ | refine DI_clS ?_ | refine DI_clr ?_ | refine DI_scr rfl ?_)); done))) mw_X2_tryCovers mi_X2_tryCovers ml_X2_193 rfl rfl (Nat.le_of_ble_eq_true rfl) (by first | decide | (simp only [rmv]; omega)) (by first | decide | (simp only [rmv]; omega)) (by first | decide | (simp only [rmv]; omega)) (by first | decide | (simp only [rmv]; omega)) dX2_tryCovers_71 (ko0 ?_)
        refine r_aload_n X dX2_tryCovers_74 (i := 0) rfl rfl ?_
        refine r_iload_n X dX2_tryCovers_75 (i := 1) rfl rfl ?_
        refine r_iload_n X dX2_tryCovers_76 (i := 2) rfl rfl ?_
        refine r_callV X (c_X2_takeBack hnt hw (by first | with_reducible assumption | with_reducible rfl | omega | (with_reducible (repeat (first | assumption | refine DI_chg ?_ | refine DI_sc ?_ | refine DI_sp ?_ | refine DI_tc ?_ | refine DI_tp ?_ | refine DI_svB ?_ | refine DI_give ?_ | refine DI_tk ?_ | refine DI_keep ?_ | refine DI_cls ?_ | refine DI_clS ?_ | refine DI_clr ?_ | refine DI_scr rfl ?_)); done)) (by first | with_reducible assumption | with_reducible rfl | omega | (with_reducible (repeat (first | assumption | refine DI_chg ?_ | refine DI_sc ?_ | refine DI_sp ?_ | refine DI_tc ?_ | refine DI_tp ?_ | refine DI_svB ?_ | refine DI_give ?_ | refine DI_tk ?_ | refine DI_keep ?_ | refine DI_cls ?_ | refine DI_clS ?_ | refine DI_clr ?_ | refine DI_scr rfl ?_)); done)) (by first | with_reducible assumption | with_reducible rfl | omega | (with_reducible (repeat (first | assumption | refine DI_chg ?_ | refine DI_sc ?_ | refine DI_sp ?_ | refine DI_tc ?_ | refine DI_tp ?_ | refine DI_svB ?_ | refine DI_give ?_ | refine DI_tk ?_ | refine DI_keep ?_ | refine DI_cls ?_ | refine DI_clS ?_ | refine DI_clr ?_ | refine DI_scr rfl ?_)); done))) mw_X2_takeBack kc2 mi_X2_takeBack (hw.2 _ _ (by first | decide | (simp [cnt] <;> omega))) ev2 ml_X2_260 rfl rfl (Nat.le_of_ble_eq_true rfl) (by first | decide | (simp only [rmv]; omega)) (by first | decide | (simp only [rmv]; omega)) (by first | decide | (simp only [rmv]; omega)) (by first | decide | (simp only [rmv]; omega)) dX2_tryCovers_77 (ko0 ?_)
        first | with_reducible refine r_iincn X dX2_tryCovers_80 rfl (by decide) rfl ?_ | refine r_iinc1 X dX2_tryCovers_80 rfl (by decide) rfl ?_
        refine r_goto X dX2_tryCovers_83 (tgt := 38) (by decide) ?_
        exact ih (k + 1) _ (by omega) (by rw [itn, ← hM]; simp [tcG, h1, h2]) (by first | with_reducible assumption | with_reducible rfl | omega | (with_reducible (repeat (first | assumption | refine DI_chg ?_ | refine DI_sc ?_ | refine DI_sp ?_ | refine DI_tc ?_ | refine DI_tp ?_ | refine DI_svB ?_ | refine DI_give ?_ | refine DI_tk ?_ | refine DI_keep ?_ | refine DI_cls ?_ | refine DI_clS ?_ | refine DI_clr ?_ | refine DI_scr rfl ?_)); done))
set_option maxHeartbeats 4000000 in
set_option maxRecDepth 100000 in
theorem c_X2_tryCovers {l : Launch} {w : Wo} {G : Lng} (hnt : l.stackTraces = false) (hw : WK w) : ∀ (d : Nat) (a : Nat) (M : Mem), a + d = 12 → DI M → CT l yX2_tryCovers [Cond.code yX2_tryCovers cX2_tryCovers 3 none] (10 + d) 0 0 w [.ref (w.1 (2, 0)), .int (nI a)] M G (okO none (tc d a M) G) := by
  intro d
  induction d with
  | zero =>
    intro a M ha hD
    obtain rfl : a = 12 := by omega
    refine CT_of hnt hw.1 mw_X2_tryCovers (by simp [Value.category]) (Nat.le_of_ble_eq_true rfl) (fun p e s m args below meth c X => ?_)
    refine r_iload_n X dX2_tryCovers_0 (i := 1) rfl rfl ?_
    refine r_if_lt X dX2_tryCovers_1 (tgt := 10) (by decide) (fun h1 => ?_) (fun h1 => ?_)
    · exact absurd h1 (nI_pos (by omega))
    · refine r_iload_n X dX2_tryCovers_4 (i := 1) rfl rfl ?_
      refine r_bipush X dX2_tryCovers_5 (v := nI 12) (by decide) ?_
      first | with_reducible refine r_icmpn_lt X dX2_tryCovers_7 (tgt := 36) (by decide) (by omega) (by omega) (fun h2 => ?_) (fun h2 => ?_) | refine r_icmp_lt X dX2_tryCovers_7 (tgt := 36) (by decide) (fun h2 => ?_) (fun h2 => ?_)
      · exact absurd h2 (by omega)
      · refine r_aload_n X dX2_tryCovers_10 (i := 0) rfl rfl ?_
        refine r_callV X (c_X2_countGiven hnt hw ) mw_X2_countGiven kc2 mi_X2_countGiven (hw.2 _ _ (by first | decide | (simp [cnt] <;> omega))) ev2 ml_X2_266 rfl rfl (Nat.le_of_ble_eq_true rfl) (by first | decide | (simp only [rmv]; omega)) (by first | decide | (simp only [rmv]; omega)) (by first | decide | (simp only [rmv]; omega)) (by first | decide | (simp only [rmv]; omega)) dX2_tryCovers_11 (ko1 ?_)
        refine r_istore_n X dX2_tryCovers_14 (i := 2) rfl (by decide) rfl ?_
        refine r_aload_n X dX2_tryCovers_15 (i := 0) rfl rfl ?_
        refine r_callV X (c_X2_isAllowed hnt hw ) mw_X2_isAllowed kc2 mi_X2_isAllowed (hw.2 _ _ (by first | decide | (simp [cnt] <;> omega))) ev2 ml_X2_269 rfl rfl (Nat.le_of_ble_eq_true rfl) (by first | decide | (simp only [rmv]; omega)) (by first | decide | (simp only [rmv]; omega)) (by first | decide | (simp only [rmv]; omega)) (by first | decide | (simp only [rmv]; omega)) dX2_tryCovers_16 (ko1 ?_)
        first | with_reducible refine r_ifb_eq X dX2_tryCovers_19 (tgt := 35) (by decide) (fun h3 => ?_) (fun h3 => ?_) | refine r_if_eq X dX2_tryCovers_19 (tgt := 35) (by decide) (fun h3 => ?_) (fun h3 => ?_)
        · refine r_vret X dX2_tryCovers_35 (by first | decide | (simp only [rmv]; omega)) (by first | decide | (simp only [rmv]; omega)) ?_
          first | with_reducible rfl | (simp [tc, h1, h2, h3]; done) | contradiction | with_reducible assumption
        · refine r_iload_n X dX2_tryCovers_22 (i := 2) rfl rfl ?_
          refine r_aload_n X dX2_tryCovers_23 (i := 0) rfl rfl ?_
          refine r_get X kc2 (j := 9) (hw.2 _ _ (by first | decide | (simp [cnt] <;> omega))) ev2 (by decide) rfl fl_X2_197 dX2_tryCovers_24 ?_
          first | with_reducible refine r_icmpn_le X dX2_tryCovers_27 (tgt := 35) (by decide) (by omega) (by omega) (fun h4 => ?_) (fun h4 => ?_) | refine r_icmp_le X dX2_tryCovers_27 (tgt := 35) (by decide) (fun h4 => ?_) (fun h4 => ?_)
          · refine r_vret X dX2_tryCovers_35 (by first | decide | (simp only [rmv]; omega)) (by first | decide | (simp only [rmv]; omega)) ?_
            first | with_reducible rfl | (simp [tc, h1, h2, h3, h4]; done) | contradiction | with_reducible assumption
          · refine r_aload_n X dX2_tryCovers_30 (i := 0) rfl rfl ?_
            refine r_iload_n X dX2_tryCovers_31 (i := 2) rfl rfl ?_
            refine r_callV X (c_X2_keepAsBest hnt hw ) mw_X2_keepAsBest kc2 mi_X2_keepAsBest (hw.2 _ _ (by first | decide | (simp [cnt] <;> omega))) ev2 ml_X2_253 rfl rfl (Nat.le_of_ble_eq_true rfl) (by first | decide | (simp only [rmv]; omega)) (by first | decide | (simp only [rmv]; omega)) (by first | decide | (simp only [rmv]; omega)) (by first | decide | (simp only [rmv]; omega)) dX2_tryCovers_32 (ko0 ?_)
            refine r_vret X dX2_tryCovers_35 (by first | decide | (simp only [rmv]; omega)) (by first | decide | (simp only [rmv]; omega)) ?_
            first | with_reducible rfl | (simp [tc, h1, h2, h3, h4]; done) | contradiction | with_reducible assumption
  | succ d ihC =>
    intro a M ha hD
    refine CT_of hnt hw.1 mw_X2_tryCovers (by simp [Value.category]) (Nat.le_of_ble_eq_true rfl) (fun p e s m args below meth c X => ?_)
    refine r_iload_n X dX2_tryCovers_0 (i := 1) rfl rfl ?_
    refine r_if_lt X dX2_tryCovers_1 (tgt := 10) (by decide) (fun h1 => ?_) (fun h1 => ?_)
    · exact absurd h1 (nI_pos (by omega))
    · refine r_iload_n X dX2_tryCovers_4 (i := 1) rfl rfl ?_
      refine r_bipush X dX2_tryCovers_5 (v := nI 12) (by decide) ?_
      first | with_reducible refine r_icmpn_lt X dX2_tryCovers_7 (tgt := 36) (by decide) (by omega) (by omega) (fun h2 => ?_) (fun h2 => ?_) | refine r_icmp_lt X dX2_tryCovers_7 (tgt := 36) (by decide) (fun h2 => ?_) (fun h2 => ?_)
      · refine r_iconst X dX2_tryCovers_36 (v := nI 0) (by decide) ?_
        refine r_istore_n X dX2_tryCovers_37 (i := 2) rfl (by decide) rfl ?_
        refine r_lv (lv2 := [some (.ref (w.1 (2, 0))), some (.int (nI a)), some (.int (nI 0))]) (lvs_c (Or.inr rfl) (lvs_c (Or.inr rfl) (lvs_c (Or.inr rfl) lvs_n))) ?_
        have ho : tc (d + 1) a M = tc d (a + 1) (itn (tcG (tc d) a) 5 M) := by simp [tc]
        rw [ho]
        exact lp_X2_tryCovers hnt hw X ihC ha 5 0 M rfl rfl hD
      · exact absurd h2 (by omega)

set_option maxHeartbeats 4000000 in
set_option maxRecDepth 100000 in
theorem lp_X2_tryPurchases {p : Program} {l : Launch} {e : Env} {s : State} {m : MethodId} {args : Array Value} {below : List Frame} {meth : Method} {c : Code} {w : Wo} {G : Lng} {d : Nat} {a : Nat} {M : Mem} (hnt : l.stackTraces = false) (hw : WK w) (X : Cx p l (rmv (10 + (d + 1)) 0 0) s m args meth c cX2_tryPurchases 3 yX2_tryPurchases.cls none [] w) (ihC : ∀ (a : Nat) (M : Mem), a + d = 12 → DI M → CT l yX2_tryPurchases [Cond.code yX2_tryPurchases cX2_tryPurchases 3 none] (10 + d) 0 0 w [.ref (w.1 (2, 0)), .int (nI a)] M G (okO none (tpu d a M) G)) (ha : a + (d + 1) = 12) : ∀ (n k : Nat) (M1 : Mem), k + n = 5 → M1 = itn (tcG (tpu d) a) k M → DI M1 → VE p l e (rmv (10 + (d + 1)) 0 0) s m args below meth c 0 0 (QV w (okO none (itn (tcG (tpu d) a) 5 M) G) below args s 0 0) 3 w 51 [some (.ref (w.1 (2, 0))), some (.int (nI a)), some (.int (nI k))] [] (ev w M1 G) := by
  intro n
  induction n with
  | zero =>
    intro k M1 hk hM hD1
    have hk5 : k = 5 := by omega
    subst hk5
    refine r_iload_n X dX2_tryPurchases_51 (i := 2) rfl rfl ?_
    refine r_iconst X dX2_tryPurchases_52 (v := nI 5) (by decide) ?_
    first | with_reducible refine r_icmpn_ge X dX2_tryPurchases_53 (tgt := 99) (by decide) (by omega) (by omega) (fun h1 => ?_) (fun h1 => ?_) | refine r_icmp_ge X dX2_tryPurchases_53 (tgt := 99) (by decide) (fun h1 => ?_) (fun h1 => ?_)
    · refine r_vret X dX2_tryPurchases_99 (by first | decide | (simp only [rmv]; omega)) (by first | decide | (simp only [rmv]; omega)) ?_
      first | with_reducible rfl | (simp [tpu, hM, h1]; done) | contradiction | with_reducible assumption
    · exact absurd h1 (by omega)
  | succ n ih =>
    intro k M1 hk hM hD1
    refine r_iload_n X dX2_tryPurchases_51 (i := 2) rfl rfl ?_
    refine r_iconst X dX2_tryPurchases_52 (v := nI 5) (by decide) ?_
    first | with_reducible refine r_icmpn_ge X dX2_tryPurchases_53 (tgt := 99) (by decide) (by omega) (by omega) (fun h1 => ?_) (fun h1 => ?_) | refine r_icmp_ge X dX2_tryPurchases_53 (tgt := 99) (by decide) (fun h1 => ?_) (fun h1 => ?_)
    · exact absurd h1 (by omega)
    · refine r_aload_n X dX2_tryPurchases_56 (i := 0) rfl rfl ?_
      refine r_get X kc2 (j := 1) (hw.2 _ _ (by first | decide | (simp [cnt] <;> omega))) ev2 (by decide) rfl fl_X2_18 dX2_tryPurchases_57 ?_
      refine r_iload_n X dX2_tryPurchases_60 (i := 2) rfl rfl ?_
      first | refine r_aald X (t0 := 6) (hw.2 _ _ (by first | decide | (simp [cnt] <;> omega))) rfl ev4 (by first | with_reducible rfl | with_reducible assumption | (rw [pk_mul, nI_add])) (by first | with_reducible assumption | omega) (by decide) rfl dX2_tryPurchases_61 ?_ | refine r_aald X (t0 := 5) (hw.2 _ _ (by first | decide | (simp [cnt] <;> omega))) rfl ev5 (by first | with_reducible rfl | with_reducible assumption | (rw [pk_mul, nI_add])) (by first | with_reducible assumption | omega) (by decide) rfl dX2_tryPurchases_61 ?_
      refine r_aload_n X dX2_tryPurchases_62 (i := 0) rfl rfl ?_
      refine r_get X kc2 (j := 0) (hw.2 _ _ (by first | decide | (simp [cnt] <;> omega))) ev2 (by decide) rfl fl_X2_11 dX2_tryPurchases_63 ?_
      refine r_iload_n X dX2_tryPurchases_66 (i := 1) rfl rfl ?_
      first | refine r_aald X (t0 := 6) (hw.2 _ _ (by first | decide | (simp [cnt] <;> omega))) rfl ev4 (by first | with_reducible rfl | with_reducible assumption | (rw [pk_mul, nI_add])) (by first | with_reducible assumption | omega) (by decide) rfl dX2_tryPurchases_67 ?_ | refine r_aald X (t0 := 5) (hw.2 _ _ (by first | decide | (simp [cnt] <;> omega))) rfl ev5 (by first | with_reducible rfl | with_reducible assumption | (rw [pk_mul, nI_add])) (by first | with_reducible assumption | omega) (by decide) rfl dX2_tryPurchases_67 ?_
      refine r_callVN X (c_X0_fits hnt hw (by first | with_reducible assumption | with_reducible rfl | omega | (with_reducible (repeat (first | assumption | refine DI_chg ?_ | refine DI_sc ?_ | refine DI_sp ?_ | refine DI_tc ?_ | refine DI_tp ?_ | refine DI_svB ?_ | refine DI_give ?_ | refine DI_tk ?_ | refine DI_keep ?_ | refine DI_cls ?_ | refine DI_clS ?_ | refine DI_clr ?_ | refine DI_scr rfl ?_)); done)) (by first | with_reducible assumption | with_reducible rfl | omega | (with_reducible (repeat (first | assumption | refine DI_chg ?_ | refine DI_sc ?_ | refine DI_sp ?_ | refine DI_tc ?_ | refine DI_tp ?_ | refine DI_svB ?_ | refine DI_give ?_ | refine DI_tk ?_ | refine DI_keep ?_ | refine DI_cls ?_ | refine DI_clS ?_ | refine DI_clr ?_ | refine DI_scr rfl ?_)); done))) mw_X0_fits kc0 mi_X0_fits (hw.2 _ _ (by first | decide | (simp [cnt] <;> omega))) ev0 ml_X2_165 rfl rfl (Nat.le_of_ble_eq_true rfl) (by first | decide | (simp only [rmv]; omega)) (by first | decide | (simp only [rmv]; omega)) (by first | decide | (simp only [rmv]; omega)) (by first | decide | (simp only [rmv]; omega)) dX2_tryPurchases_68 (ko1 ?_)
      first | with_reducible refine r_ifb_eq X dX2_tryPurchases_71 (tgt := 93) (by decide) (fun h2 => ?_) (fun h2 => ?_) | refine r_if_eq X dX2_tryPurchases_71 (tgt := 93) (by decide) (fun h2 => ?_) (fun h2 => ?_)
      · first | with_reducible refine r_iincn X dX2_tryPurchases_93 rfl (by decide) rfl ?_ | refine r_iinc1 X dX2_tryPurchases_93 rfl (by decide) rfl ?_
        refine r_goto X dX2_tryPurchases_96 (tgt := 51) (by decide) ?_
        exact ih (k + 1) _ (by omega) (by rw [itn, ← hM]; simp [tcG, h1, h2]) (by first | with_reducible assumption | with_reducible rfl | omega | (with_reducible (repeat (first | assumption | refine DI_chg ?_ | refine DI_sc ?_ | refine DI_sp ?_ | refine DI_tc ?_ | refine DI_tp ?_ | refine DI_svB ?_ | refine DI_give ?_ | refine DI_tk ?_ | refine DI_keep ?_ | refine DI_cls ?_ | refine DI_clS ?_ | refine DI_clr ?_ | refine DI_scr rfl ?_)); done))
      · refine r_aload_n X dX2_tryPurchases_74 (i := 0) rfl rfl ?_
        refine r_iload_n X dX2_tryPurchases_75 (i := 1) rfl rfl ?_
        refine r_iload_n X dX2_tryPurchases_76 (i := 2) rfl rfl ?_
        refine r_callV X (c_X2_give hnt hw (by first | with_reducible assumption | with_reducible rfl | omega | (with_reducible (repeat (first | assumption | refine DI_chg ?_ | refine DI_sc ?_ | refine DI_sp ?_ | refine DI_tc ?_ | refine DI_tp ?_ | refine DI_svB ?_ | refine DI_give ?_ | refine DI_tk ?_ | refine DI_keep ?_ | refine DI_cls ?_ | refine DI_clS ?_ | refine DI_clr ?_ | refine DI_scr rfl ?_)); done)) (by first | with_reducible assumption | with_reducible rfl | omega | (with_reducible (repeat (first | assumption | refine DI_chg ?_ | refine DI_sc ?_ | refine DI_sp ?_ | refine DI_tc ?_ | refine DI_tp ?_ | refine DI_svB ?_ | refine DI_give ?_ | refine DI_tk ?_ | refine DI_keep ?_ | refine DI_cls ?_ | refine DI_clS ?_ | refine DI_clr ?_ | refine DI_scr rfl ?_)); done)) (by first | with_reducible assumption | with_reducible rfl | omega | (with_reducible (repeat (first | assumption | refine DI_chg ?_ | refine DI_sc ?_ | refine DI_sp ?_ | refine DI_tc ?_ | refine DI_tp ?_ | refine DI_svB ?_ | refine DI_give ?_ | refine DI_tk ?_ | refine DI_keep ?_ | refine DI_cls ?_ | refine DI_clS ?_ | refine DI_clr ?_ | refine DI_scr rfl ?_)); done))) mw_X2_give kc2 mi_X2_give (hw.2 _ _ (by first | decide | (simp [cnt] <;> omega))) ev2 ml_X2_256 rfl rfl (Nat.le_of_ble_eq_true rfl) (by first | decide | (simp only [rmv]; omega)) (by first | decide | (simp only [rmv]; omega)) (by first | decide | (simp only [rmv]; omega)) (by first | decide | (simp only [rmv]; omega)) dX2_tryPurchases_77 (ko0 ?_)
        refine r_aload_n X dX2_tryPurchases_80 (i := 0) rfl rfl ?_
        refine r_iload_n X dX2_tryPurchases_81 (i := 1) rfl rfl ?_
        refine r_iconst X dX2_tryPurchases_82 (v := nI 1) (by decide) ?_
        refine r_iadd X dX2_tryPurchases_83 ?_
        rw [nI_add]
        refine r_callS X (ihC _ _ (by omega) (by first | with_reducible assumption | with_reducible rfl | omega | (with_reducible (repeat (first | assumption | refine DI_chg ?_ | refine DI_sc ?_ | refine DI_sp ?_ | refine DI_tc ?_ | refine DI_tp ?_ | refine DI_svB ?_ | refine DI_give ?_ | refine DI_tk ?_ | refine DI_keep ?_ | refine DI_cls ?_ | refine DI_clS ?_ | refine DI_clr ?_ | refine DI_scr rfl ?_)); done))) mw_X2_tryPurchases mi_X2_tryPurchases ml_X2_222 rfl rfl (Nat.le_of_ble_eq_true rfl) (by first | decide | (simp only [rmv]; omega)) (by first | decide | (simp only [rmv]; omega)) (by first | decide | (simp only [rmv]; omega)) (by first | decide | (simp only [rmv]; omega)) dX2_tryPurchases_84 (ko0 ?_)
        refine r_aload_n X dX2_tryPurchases_87 (i := 0) rfl rfl ?_
        refine r_iload_n X dX2_tryPurchases_88 (i := 1) rfl rfl ?_
        refine r_iload_n X dX2_tryPurchases_89 (i := 2) rfl rfl ?_
        refine r_callV X (c_X2_takeBack hnt hw (by first | with_reducible assumption | with_reducible rfl | omega | (with_reducible (repeat (first | assumption | refine DI_chg ?_ | refine DI_sc ?_ | refine DI_sp ?_ | refine DI_tc ?_ | refine DI_tp ?_ | refine DI_svB ?_ | refine DI_give ?_ | refine DI_tk ?_ | refine DI_keep ?_ | refine DI_cls ?_ | refine DI_clS ?_ | refine DI_clr ?_ | refine DI_scr rfl ?_)); done)) (by first | with_reducible assumption | with_reducible rfl | omega | (with_reducible (repeat (first | assumption | refine DI_chg ?_ | refine DI_sc ?_ | refine DI_sp ?_ | refine DI_tc ?_ | refine DI_tp ?_ | refine DI_svB ?_ | refine DI_give ?_ | refine DI_tk ?_ | refine DI_keep ?_ | refine DI_cls ?_ | refine DI_clS ?_ | refine DI_clr ?_ | refine DI_scr rfl ?_)); done)) (by first | with_reducible assumption | with_reducible rfl | omega | (with_reducible (repeat (first | assumption | refine DI_chg ?_ | refine DI_sc ?_ | refine DI_sp ?_ | refine DI_tc ?_ | refine DI_tp ?_ | refine DI_svB ?_ | refine DI_give ?_ | refine DI_tk ?_ | refine DI_keep ?_ | refine DI_cls ?_ | refine DI_clS ?_ | refine DI_clr ?_ | refine DI_scr rfl ?_)); done))) mw_X2_takeBack kc2 mi_X2_takeBack (hw.2 _ _ (by first | decide | (simp [cnt] <;> omega))) ev2 ml_X2_260 rfl rfl (Nat.le_of_ble_eq_true rfl) (by first | decide | (simp only [rmv]; omega)) (by first | decide | (simp only [rmv]; omega)) (by first | decide | (simp only [rmv]; omega)) (by first | decide | (simp only [rmv]; omega)) dX2_tryPurchases_90 (ko0 ?_)
        first | with_reducible refine r_iincn X dX2_tryPurchases_93 rfl (by decide) rfl ?_ | refine r_iinc1 X dX2_tryPurchases_93 rfl (by decide) rfl ?_
        refine r_goto X dX2_tryPurchases_96 (tgt := 51) (by decide) ?_
        exact ih (k + 1) _ (by omega) (by rw [itn, ← hM]; simp [tcG, h1, h2]) (by first | with_reducible assumption | with_reducible rfl | omega | (with_reducible (repeat (first | assumption | refine DI_chg ?_ | refine DI_sc ?_ | refine DI_sp ?_ | refine DI_tc ?_ | refine DI_tp ?_ | refine DI_svB ?_ | refine DI_give ?_ | refine DI_tk ?_ | refine DI_keep ?_ | refine DI_cls ?_ | refine DI_clS ?_ | refine DI_clr ?_ | refine DI_scr rfl ?_)); done))
set_option maxHeartbeats 4000000 in
set_option maxRecDepth 100000 in
theorem c_X2_tryPurchases {l : Launch} {w : Wo} {G : Lng} (hnt : l.stackTraces = false) (hw : WK w) : ∀ (d : Nat) (a : Nat) (M : Mem), a + d = 12 → DI M → CT l yX2_tryPurchases [Cond.code yX2_tryPurchases cX2_tryPurchases 3 none] (10 + d) 0 0 w [.ref (w.1 (2, 0)), .int (nI a)] M G (okO none (tpu d a M) G) := by
  intro d
  induction d with
  | zero =>
    intro a M ha hD
    obtain rfl : a = 12 := by omega
    refine CT_of hnt hw.1 mw_X2_tryPurchases (by simp [Value.category]) (Nat.le_of_ble_eq_true rfl) (fun p e s m args below meth c X => ?_)
    refine r_iload_n X dX2_tryPurchases_0 (i := 1) rfl rfl ?_
    refine r_if_lt X dX2_tryPurchases_1 (tgt := 10) (by decide) (fun h1 => ?_) (fun h1 => ?_)
    · exact absurd h1 (nI_pos (by omega))
    · refine r_iload_n X dX2_tryPurchases_4 (i := 1) rfl rfl ?_
      refine r_bipush X dX2_tryPurchases_5 (v := nI 12) (by decide) ?_
      first | with_reducible refine r_icmpn_lt X dX2_tryPurchases_7 (tgt := 29) (by decide) (by omega) (by omega) (fun h2 => ?_) (fun h2 => ?_) | refine r_icmp_lt X dX2_tryPurchases_7 (tgt := 29) (by decide) (fun h2 => ?_) (fun h2 => ?_)
      · exact absurd h2 (by omega)
      · refine r_aload_n X dX2_tryPurchases_10 (i := 0) rfl rfl ?_
        refine r_callV X (c_X2_sumOfMissing hnt hw ) mw_X2_sumOfMissing kc2 mi_X2_sumOfMissing (hw.2 _ _ (by first | decide | (simp [cnt] <;> omega))) ev2 ml_X2_273 rfl rfl (Nat.le_of_ble_eq_true rfl) (by first | decide | (simp only [rmv]; omega)) (by first | decide | (simp only [rmv]; omega)) (by first | decide | (simp only [rmv]; omega)) (by first | decide | (simp only [rmv]; omega)) dX2_tryPurchases_11 (ko1 ?_)
        refine r_istore_n X dX2_tryPurchases_14 (i := 2) rfl (by decide) rfl ?_
        refine r_iload_n X dX2_tryPurchases_15 (i := 2) rfl rfl ?_
        refine r_aload_n X dX2_tryPurchases_16 (i := 0) rfl rfl ?_
        refine r_get X kc2 (j := 9) (hw.2 _ _ (by first | decide | (simp [cnt] <;> omega))) ev2 (by decide) rfl fl_X2_197 dX2_tryPurchases_17 ?_
        first | with_reducible refine r_icmpn_ge X dX2_tryPurchases_20 (tgt := 28) (by decide) (by omega) (by omega) (fun h3 => ?_) (fun h3 => ?_) | refine r_icmp_ge X dX2_tryPurchases_20 (tgt := 28) (by decide) (fun h3 => ?_) (fun h3 => ?_)
        · refine r_vret X dX2_tryPurchases_28 (by first | decide | (simp only [rmv]; omega)) (by first | decide | (simp only [rmv]; omega)) ?_
          first | with_reducible rfl | (simp [tpu, h1, h2, h3]; done) | contradiction | with_reducible assumption
        · refine r_aload_n X dX2_tryPurchases_23 (i := 0) rfl rfl ?_
          refine r_iload_n X dX2_tryPurchases_24 (i := 2) rfl rfl ?_
          refine r_callV X (c_X2_keepAsBest hnt hw ) mw_X2_keepAsBest kc2 mi_X2_keepAsBest (hw.2 _ _ (by first | decide | (simp [cnt] <;> omega))) ev2 ml_X2_253 rfl rfl (Nat.le_of_ble_eq_true rfl) (by first | decide | (simp only [rmv]; omega)) (by first | decide | (simp only [rmv]; omega)) (by first | decide | (simp only [rmv]; omega)) (by first | decide | (simp only [rmv]; omega)) dX2_tryPurchases_25 (ko0 ?_)
          refine r_vret X dX2_tryPurchases_28 (by first | decide | (simp only [rmv]; omega)) (by first | decide | (simp only [rmv]; omega)) ?_
          first | with_reducible rfl | (simp [tpu, h1, h2, h3]; done) | contradiction | with_reducible assumption
  | succ d ihC =>
    intro a M ha hD
    refine CT_of hnt hw.1 mw_X2_tryPurchases (by simp [Value.category]) (Nat.le_of_ble_eq_true rfl) (fun p e s m args below meth c X => ?_)
    refine r_iload_n X dX2_tryPurchases_0 (i := 1) rfl rfl ?_
    refine r_if_lt X dX2_tryPurchases_1 (tgt := 10) (by decide) (fun h1 => ?_) (fun h1 => ?_)
    · exact absurd h1 (nI_pos (by omega))
    · refine r_iload_n X dX2_tryPurchases_4 (i := 1) rfl rfl ?_
      refine r_bipush X dX2_tryPurchases_5 (v := nI 12) (by decide) ?_
      first | with_reducible refine r_icmpn_lt X dX2_tryPurchases_7 (tgt := 29) (by decide) (by omega) (by omega) (fun h2 => ?_) (fun h2 => ?_) | refine r_icmp_lt X dX2_tryPurchases_7 (tgt := 29) (by decide) (fun h2 => ?_) (fun h2 => ?_)
      · refine r_aload_n X dX2_tryPurchases_29 (i := 0) rfl rfl ?_
        refine r_get X kc2 (j := 0) (hw.2 _ _ (by first | decide | (simp [cnt] <;> omega))) ev2 (by decide) rfl fl_X2_11 dX2_tryPurchases_30 ?_
        refine r_iload_n X dX2_tryPurchases_33 (i := 1) rfl rfl ?_
        first | refine r_aald X (t0 := 6) (hw.2 _ _ (by first | decide | (simp [cnt] <;> omega))) rfl ev4 (by first | with_reducible rfl | with_reducible assumption | (rw [pk_mul, nI_add])) (by first | with_reducible assumption | omega) (by decide) rfl dX2_tryPurchases_34 ?_ | refine r_aald X (t0 := 5) (hw.2 _ _ (by first | decide | (simp [cnt] <;> omega))) rfl ev5 (by first | with_reducible rfl | with_reducible assumption | (rw [pk_mul, nI_add])) (by first | with_reducible assumption | omega) (by decide) rfl dX2_tryPurchases_34 ?_
        refine r_getN X kc1 (j := 0) (hw.2 _ _ (by first | decide | (simp [cnt] <;> omega))) ev1 (by decide) rfl fl_X2_75 dX2_tryPurchases_35 ?_
        first | with_reducible refine r_ifb_ne X dX2_tryPurchases_38 (tgt := 49) (by decide) (fun h3 => ?_) (fun h3 => ?_) | refine r_if_ne X dX2_tryPurchases_38 (tgt := 49) (by decide) (fun h3 => ?_) (fun h3 => ?_)
        · refine r_iconst X dX2_tryPurchases_49 (v := nI 0) (by decide) ?_
          refine r_istore_n X dX2_tryPurchases_50 (i := 2) rfl (by decide) rfl ?_
          refine r_lv (lv2 := [some (.ref (w.1 (2, 0))), some (.int (nI a)), some (.int (nI 0))]) (lvs_c (Or.inr rfl) (lvs_c (Or.inr rfl) (lvs_c (Or.inr rfl) lvs_n))) ?_
          have ho : tpu (d + 1) a M = itn (tcG (tpu d) a) 5 M := by simp [tpu, h1, h2, h3]
          rw [ho]
          exact lp_X2_tryPurchases hnt hw X ihC ha 5 0 M rfl rfl hD
        · refine r_aload_n X dX2_tryPurchases_41 (i := 0) rfl rfl ?_
          refine r_iload_n X dX2_tryPurchases_42 (i := 1) rfl rfl ?_
          refine r_iconst X dX2_tryPurchases_43 (v := nI 1) (by decide) ?_
          refine r_iadd X dX2_tryPurchases_44 ?_
          rw [nI_add]
          refine r_callS X (ihC _ _ (by omega) (by first | with_reducible assumption | with_reducible rfl | omega | (with_reducible (repeat (first | assumption | refine DI_chg ?_ | refine DI_sc ?_ | refine DI_sp ?_ | refine DI_tc ?_ | refine DI_tp ?_ | refine DI_svB ?_ | refine DI_give ?_ | refine DI_tk ?_ | refine DI_keep ?_ | refine DI_cls ?_ | refine DI_clS ?_ | refine DI_clr ?_ | refine DI_scr rfl ?_)); done))) mw_X2_tryPurchases mi_X2_tryPurchases ml_X2_222 rfl rfl (Nat.le_of_ble_eq_true rfl) (by first | decide | (simp only [rmv]; omega)) (by first | decide | (simp only [rmv]; omega)) (by first | decide | (simp only [rmv]; omega)) (by first | decide | (simp only [rmv]; omega)) dX2_tryPurchases_45 (ko0 ?_)
          refine r_vret X dX2_tryPurchases_48 (by first | decide | (simp only [rmv]; omega)) (by first | decide | (simp only [rmv]; omega)) ?_
          first | with_reducible rfl | (simp [tpu, h1, h2, h3]; done) | contradiction | with_reducible assumption
      · exact absurd h2 (by omega)

end M5
