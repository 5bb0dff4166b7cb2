/-! THE QUESTIONS OF THE CLASS -/
section M6
theorem itn0 (g : Nat → Mem → Mem) (M : Mem) : itn g 0 M = M := rfl
def dv : Nat → Int32
  | 0 => -1
  | j + 1 => nI j
theorem dv_step (j : Nat) : nI j + Int32.ofInt (-1) = dv j := by
  cases j with
  | zero => decide
  | succ j => exact pk_m1 j
def cvG (t : Nat) (A : Mem) : Mem := ms A 8 0 (11 - t) (A 8 0 (11 - t + 1) + (if cf A (11 - t) 5 ≤ 0 then nI 0 else nI 1))
def fcM (M : Mem) : Mem := sc 12 0 (nI 0) (itn cvG 12 (ms (clS M (-1)) 8 0 12 (nI 0)))
theorem Sm_cv {M M1 : Mem} {n : Nat} (h : Sm M M1) : Sm M (itn cvG n M1) := Sm_itn (fun _ _ h => Sm_ms h rfl) h n
theorem Sm_fc {M M1 : Mem} (h : Sm M M1) : Sm M (fcM M1) := Sm_sc (Sm_cv (Sm_ms (Sm_clS h) rfl))
theorem DI_cv {M : Mem} {n : Nat} (h : DI M) : DI (itn cvG n M) := h.sm (Sm_cv Sm.rf)
theorem DI_fc {M : Mem} (h : DI M) : DI (fcM M) := h.sm (Sm_fc Sm.rf)
def fpM (M : Mem) : Mem := sp 12 0 (nI 0) (clS M 1000000)
theorem Sm_fp {M M1 : Mem} (h : Sm M M1) : Sm M (fpM M1) := Sm_sp (Sm_clS h)
theorem DI_fp {M : Mem} (h : DI M) : DI (fpM M) := h.sm (Sm_fp Sm.rf)
def tcM (M : Mem) : Mem := tc 12 0 (clS M (-1))
def tpM (M : Mem) : Mem := tpu 12 0 (clS M 1000000)
def ffO (M : Mem) (G : Lng) (i : Nat) : Nat → Nat → Oc
  | 0, _ => thO xNSE M G
  | n + 1, e => if fit M e i = true then okO (some (.int (nI e))) M G else ffO M G i n (e + 1)
def tuG (e : Nat) (A : Mem) : Mem := ms A 0 e 4 (A 0 e 4 + mss A e)
def tuM (M : Mem) : Mem := itn tuG 5 (svB (fpM M))
def oFitting (M : Mem) (G : Lng) (x : Int32) : Oc := if thr M x = true then okO (some (.int (cf M (ix x) 5))) M G else thO xIOB M G
def oFirst (M : Mem) (G : Lng) (x : Int32) : Oc := if thr M x = true then ffO M G (ix x) 5 0 else thO xIOB M G
def oUFA (M : Mem) (G : Lng) (x : Int32) : Oc := if eth M x = true then okO (some (.int (ufa M (ix x) 0 (ix x) 12))) (ufa M (ix x)) G else thO xIOB M G
def oCT (M : Mem) (G : Lng) : Oc := if M 2 0 3 ≤ nI 4 then okO (some (.int (tcM M 2 0 9))) (tcM M) G else thO xUOE M G
def oEBC (M : Mem) (G : Lng) (x : Int32) : Oc := if thr M x = true then okO (some (.int (fcM M 7 0 (ix x)))) (fcM M) G else thO xIOB M G
def oEOf (M : Mem) (G : Lng) (x : Int32) : Oc := if thr M x = true then (if fcM M 7 0 (ix x) = -1 then thO xNSE (fcM M) G else okO (some (.int (fcM M 7 0 (ix x)))) (fcM M) G) else thO xIOB M G
def oReason (M : Mem) (G : Lng) (x : Int32) : Oc := if thr M x = true then (if fcM M 7 0 (ix x) = -1 then (if cf (fcM M) (ix x) 5 = 0 then okO (some (.int (nI 110))) (fcM M) G else okO (some (.int (nI 117))) (fcM M) G) else okO (some (.int (nI 99))) (fcM M) G) else thO xIOB M G
def oUsed (M : Mem) (G : Lng) (x : Int32) : Oc := if eth M x = true then okO (some (.int (svB (fcM M) 0 (ix x) 12))) (svB (fcM M)) G else thO xIOB M G
def oSpare (M : Mem) (G : Lng) (x : Int32) : Oc := if eth M x = true then okO (some (.int (svB (fcM M) 0 (ix x) 4 - svB (fcM M) 0 (ix x) 12))) (svB (fcM M)) G else thO xIOB M G
def oPurchase (M : Mem) (G : Lng) : Oc := if ckF M 12 0 = true then okO (some (.int (fpM M 2 0 9))) (fpM M) G else thO xNSE M G
def oPT (M : Mem) (G : Lng) : Oc := if M 2 0 3 ≤ nI 4 then (if ckF M 12 0 = true then okO (some (.int (tpM M 2 0 9))) (tpM M) G else thO xNSE M G) else thO xUOE M G
def oToBuy (M : Mem) (G : Lng) (x : Int32) : Oc := if eth M x = true then (if ckF M 12 0 = true then okO (some (.int (mss (svB (fpM M)) (ix x)))) (svB (fpM M)) G else thO xNSE M G) else thO xIOB M G
def oTrueUp (M : Mem) (G : Lng) : Oc := if ckF M 12 0 = true then okO (some (.int (fpM M 2 0 9))) (tuM M) (gs G (2, 0) (G (2, 0) + (fpM M 2 0 9).toInt64)) else thO xNSE M G
set_option maxHeartbeats 4000000 in
set_option maxRecDepth 100000 in
theorem lp_findCover {p : Program} {l : Launch} {e : Env} {s : State} {m : MethodId} {args : Array Value} {below : List Frame} {meth : Method} {c : Code} {w : Wo} {M : Mem} {G : Lng} (hnt : l.stackTraces = false) (hw : WK w) (X : Cx p l (rmv 23 0 0) s m args meth c cX2_findCover 2 yX2_findCover.cls (some .int) [] w)  : ∀ (j t : Nat) (M1 : Mem), j + t = 12 → M1 = itn cvG t (ms (clS M (-1)) 8 0 12 (nI 0)) → DI M1 → VE p l e (rmv 23 0 0) s m args below meth c (0) (0) (QV w (okO (some (.int (fcM M 2 0 9))) (fcM M) G) below args s 0 0) 2 w 16 [some (.ref (w.1 (2, 0))), some (.int (dv j))] [] (ev w (M1) (G)) := by
  intro j
  induction j with
  | zero =>
    intro t M1 hk hM hD1
    refine r_iload_n X dX2_findCover_16 (i := 1) rfl rfl ?_
    refine r_if_lt X dX2_findCover_17 (tgt := 59) (by decide) (fun h1 => ?_) (fun h1 => ?_)
    · refine r_aload_n X dX2_findCover_59 (i := 0) rfl rfl ?_
      refine r_iconst X dX2_findCover_60 (v := nI 0) (by decide) ?_
      refine r_iconst X dX2_findCover_61 (v := nI 0) (by decide) ?_
      refine r_callS X (c_X2_searchCover hnt hw 12 0 _ _ (by omega) (by first | with_reducible assumption | with_reducible rfl | omega | (with_reducible (repeat (first | assumption | refine DI_chg ?_ | refine DI_fc ?_ | refine DI_fp ?_ | refine DI_cv ?_ | refine DI_sc ?_ | refine DI_sp ?_ | refine DI_tc ?_ | refine DI_tp ?_ | refine DI_svB ?_ | refine DI_give ?_ | refine DI_tk ?_ | refine DI_keep ?_ | refine DI_cls ?_ | refine DI_clS ?_ | refine DI_clr ?_ | refine DI_scr rfl ?_)); done))) mw_X2_searchCover mi_X2_searchCover ml_X2_246 rfl rfl (Nat.le_of_ble_eq_true rfl) (by first | decide | (simp only [rmv]; omega)) (by first | decide | (simp only [rmv]; omega)) (by first | decide | (simp only [rmv]; omega)) (by first | decide | (simp only [rmv]; omega)) dX2_findCover_62 (ko0 ?_)
      refine r_aload_n X dX2_findCover_65 (i := 0) rfl rfl ?_
      refine r_get X kc2 (j := 9) (hw.2 _ _ (by first | decide | (simp [cnt] <;> omega))) ev2 (by decide) rfl fl_X2_197 dX2_findCover_66 ?_
      refine r_iret X dX2_findCover_69 (by first | decide | (simp only [rmv]; omega)) (by first | decide | (simp only [rmv]; omega)) ?_
      first | with_reducible rfl | (((have h12 : t = 12 := by omega); subst h12; simp [fcM, hM]); done) | contradiction | with_reducible assumption
    · exact absurd (by decide) h1
  | succ j ih =>
    intro t M1 hk hM hD1
    have h11 : 11 - t = j := by omega
    rw [show dv (j + 1) = nI j from rfl]
    refine r_iload_n X dX2_findCover_16 (i := 1) rfl rfl ?_
    refine r_if_lt X dX2_findCover_17 (tgt := 59) (by decide) (fun h1 => ?_) (fun h1 => ?_)
    · exact absurd h1 (nI_pos (by omega))
    · refine r_aload_n X dX2_findCover_20 (i := 0) rfl rfl ?_
      refine r_get X kc2 (j := 8) (hw.2 _ _ (by first | decide | (simp [cnt] <;> omega))) ev2 (by decide) rfl fl_X2_30 dX2_findCover_21 ?_
      refine r_iload_n X dX2_findCover_24 (i := 1) rfl rfl ?_
      refine r_aload_n X dX2_findCover_25 (i := 0) rfl rfl ?_
      refine r_get X kc2 (j := 8) (hw.2 _ _ (by first | decide | (simp [cnt] <;> omega))) ev2 (by decide) rfl fl_X2_30 dX2_findCover_26 ?_
      refine r_iload_n X dX2_findCover_29 (i := 1) rfl rfl ?_
      refine r_iconst X dX2_findCover_30 (v := nI 1) (by decide) ?_
      refine r_iadd X dX2_findCover_31 ?_
      rw [nI_add]
      refine r_iald X (hw.2 _ _ (by first | decide | (simp [cnt] <;> omega))) (evA (by decide) (by decide)) (by first | with_reducible rfl | with_reducible assumption | (rw [pk_mul, nI_add])) (by first | with_reducible assumption | (simp [alen] <;> omega)) (by decide) dX2_findCover_32 ?_
      refine r_aload_n X dX2_findCover_33 (i := 0) rfl rfl ?_
      refine r_aload_n X dX2_findCover_34 (i := 0) rfl rfl ?_
      refine r_get X kc2 (j := 0) (hw.2 _ _ (by first | decide | (simp [cnt] <;> omega))) ev2 (by decide) rfl fl_X2_11 dX2_findCover_35 ?_
      refine r_iload_n X dX2_findCover_38 (i := 1) rfl rfl ?_
      first | refine r_aald X (t0 := 6) (hw.2 _ _ (by first | decide | (simp [cnt] <;> omega))) rfl ev4 (by first | with_reducible rfl | with_reducible assumption | (rw [pk_mul, nI_add])) (by first | with_reducible assumption | omega) (by decide) rfl dX2_findCover_39 ?_ | refine r_aald X (t0 := 5) (hw.2 _ _ (by first | decide | (simp [cnt] <;> omega))) rfl ev5 (by first | with_reducible rfl | with_reducible assumption | (rw [pk_mul, nI_add])) (by first | with_reducible assumption | omega) (by decide) rfl dX2_findCover_39 ?_
      refine r_callV X (c_X2_countFitting hnt hw (by first | with_reducible assumption | with_reducible rfl | omega | (with_reducible (repeat (first | assumption | refine DI_chg ?_ | refine DI_fc ?_ | refine DI_fp ?_ | refine DI_cv ?_ | refine DI_sc ?_ | refine DI_sp ?_ | refine DI_tc ?_ | refine DI_tp ?_ | refine DI_svB ?_ | refine DI_give ?_ | refine DI_tk ?_ | refine DI_keep ?_ | refine DI_cls ?_ | refine DI_clS ?_ | refine DI_clr ?_ | refine DI_scr rfl ?_)); done))) mw_X2_countFitting kc2 mi_X2_countFitting (hw.2 _ _ (by first | decide | (simp [cnt] <;> omega))) ev2 ml_X2_161 rfl rfl (Nat.le_of_ble_eq_true rfl) (by first | decide | (simp only [rmv]; omega)) (by first | decide | (simp only [rmv]; omega)) (by first | decide | (simp only [rmv]; omega)) (by first | decide | (simp only [rmv]; omega)) dX2_findCover_40 (ko1 ?_)
      refine r_if_le X dX2_findCover_43 (tgt := 50) (by decide) (fun h2 => ?_) (fun h2 => ?_)
      · refine r_iconst X dX2_findCover_50 (v := nI 0) (by decide) ?_
        refine r_iadd X dX2_findCover_51 ?_
        refine r_iast X (hw.2 _ _ (by first | decide | (simp [cnt] <;> omega))) (evA (by decide) (by decide)) (by first | with_reducible rfl | with_reducible assumption | (rw [pk_mul, nI_add])) (by first | with_reducible assumption | (simp [alen] <;> omega)) (by decide) rfl dX2_findCover_52 (esA (by decide) (by decide)) ?_
        refine r_iinc X dX2_findCover_53 rfl (dv_step _) (by decide) rfl ?_
        refine r_goto X dX2_findCover_56 (tgt := 16) (by decide) ?_
        exact ih (t + 1) _ (by omega) (by rw [itn, ← hM]; simp [cvG, h11, h1, h2]) (by first | with_reducible assumption | with_reducible rfl | omega | (with_reducible (repeat (first | assumption | refine DI_chg ?_ | refine DI_fc ?_ | refine DI_fp ?_ | refine DI_cv ?_ | refine DI_sc ?_ | refine DI_sp ?_ | refine DI_tc ?_ | refine DI_tp ?_ | refine DI_svB ?_ | refine DI_give ?_ | refine DI_tk ?_ | refine DI_keep ?_ | refine DI_cls ?_ | refine DI_clS ?_ | refine DI_clr ?_ | refine DI_scr rfl ?_)); done))
      · refine r_iconst X dX2_findCover_46 (v := nI 1) (by decide) ?_
        refine r_goto X dX2_findCover_47 (tgt := 51) (by decide) ?_
        refine r_iadd X dX2_findCover_51 ?_
        refine r_iast X (hw.2 _ _ (by first | decide | (simp [cnt] <;> omega))) (evA (by decide) (by decide)) (by first | with_reducible rfl | with_reducible assumption | (rw [pk_mul, nI_add])) (by first | with_reducible assumption | (simp [alen] <;> omega)) (by decide) rfl dX2_findCover_52 (esA (by decide) (by decide)) ?_
        refine r_iinc X dX2_findCover_53 rfl (dv_step _) (by decide) rfl ?_
        refine r_goto X dX2_findCover_56 (tgt := 16) (by decide) ?_
        exact ih (t + 1) _ (by omega) (by rw [itn, ← hM]; simp [cvG, h11, h1, h2]) (by first | with_reducible assumption | with_reducible rfl | omega | (with_reducible (repeat (first | assumption | refine DI_chg ?_ | refine DI_fc ?_ | refine DI_fp ?_ | refine DI_cv ?_ | refine DI_sc ?_ | refine DI_sp ?_ | refine DI_tc ?_ | refine DI_tp ?_ | refine DI_svB ?_ | refine DI_give ?_ | refine DI_tk ?_ | refine DI_keep ?_ | refine DI_cls ?_ | refine DI_clS ?_ | refine DI_clr ?_ | refine DI_scr rfl ?_)); done))

set_option maxHeartbeats 4000000 in
set_option maxRecDepth 100000 in
theorem c_X2_findCover {l : Launch} {w : Wo} {M : Mem} {G : Lng}  (hnt : l.stackTraces = false) (hw : WK w) (hD : DI M) : CT l yX2_findCover [Cond.code yX2_findCover cX2_findCover 2 (some .int)] 23 0 0 w [.ref (w.1 (2, 0))] M G (okO (some (.int (fcM M 2 0 9))) (fcM M) G) := by
  refine CT_of hnt hw.1 mw_X2_findCover (by simp [Value.category]) (Nat.le_of_ble_eq_true rfl) (fun p e s m args below meth c X => ?_)
  refine r_aload_n X dX2_findCover_0 (i := 0) rfl rfl ?_
  refine r_iconst X dX2_findCover_1 (v := -1) (by decide) ?_
  refine r_callV X (c_X2_clearSearch hnt hw ) mw_X2_clearSearch kc2 mi_X2_clearSearch (hw.2 _ _ (by first | decide | (simp [cnt] <;> omega))) ev2 ml_X2_189 rfl rfl (Nat.le_of_ble_eq_true rfl) (by first | decide | (simp only [rmv]; omega)) (by first | decide | (simp only [rmv]; omega)) (by first | decide | (simp only [rmv]; omega)) (by first | decide | (simp only [rmv]; omega)) dX2_findCover_2 (ko0 ?_)
  refine r_aload_n X dX2_findCover_5 (i := 0) rfl rfl ?_
  refine r_get X kc2 (j := 8) (hw.2 _ _ (by first | decide | (simp [cnt] <;> omega))) ev2 (by decide) rfl fl_X2_30 dX2_findCover_6 ?_
  refine r_bipush X dX2_findCover_9 (v := nI 12) (by decide) ?_
  refine r_iconst X dX2_findCover_11 (v := nI 0) (by decide) ?_
  refine r_iast X (hw.2 _ _ (by first | decide | (simp [cnt] <;> omega))) (evA (by decide) (by decide)) (by first | with_reducible rfl | with_reducible assumption | (rw [pk_mul, nI_add])) (by first | with_reducible assumption | (simp [alen] <;> omega)) (by decide) rfl dX2_findCover_12 (esA (by decide) (by decide)) ?_
  refine r_bipush X dX2_findCover_13 (v := nI 11) (by decide) ?_
  refine r_istore_n X dX2_findCover_15 (i := 1) rfl (by decide) rfl ?_
  exact lp_findCover hnt hw X 12 0 _ rfl rfl (by first | with_reducible assumption | with_reducible rfl | omega | (with_reducible (repeat (first | assumption | refine DI_chg ?_ | refine DI_fc ?_ | refine DI_fp ?_ | refine DI_cv ?_ | refine DI_sc ?_ | refine DI_sp ?_ | refine DI_tc ?_ | refine DI_tp ?_ | refine DI_svB ?_ | refine DI_give ?_ | refine DI_tk ?_ | refine DI_keep ?_ | refine DI_cls ?_ | refine DI_clS ?_ | refine DI_clr ?_ | refine DI_scr rfl ?_)); done))

set_option maxHeartbeats 4000000 in
set_option maxRecDepth 100000 in
theorem c_X2_findPurchase {l : Launch} {w : Wo} {M : Mem} {G : Lng}  (hnt : l.stackTraces = false) (hw : WK w) (hD : DI M) : CT l yX2_findPurchase [Cond.code yX2_findPurchase cX2_findPurchase 1 (some .int)] 23 0 0 w [.ref (w.1 (2, 0))] M G (okO (some (.int (fpM M 2 0 9))) (fpM M) G) := by
  refine CT_of hnt hw.1 mw_X2_findPurchase (by simp [Value.category]) (Nat.le_of_ble_eq_true rfl) (fun p e s m args below meth c X => ?_)
  refine r_aload_n X dX2_findPurchase_0 (i := 0) rfl rfl ?_
  refine r_ldc X kc_221 rfl dX2_findPurchase_1 ?_
  refine r_callV X (c_X2_clearSearch hnt hw ) mw_X2_clearSearch kc2 mi_X2_clearSearch (hw.2 _ _ (by first | decide | (simp [cnt] <;> omega))) ev2 ml_X2_189 rfl rfl (Nat.le_of_ble_eq_true rfl) (by first | decide | (simp only [rmv]; omega)) (by first | decide | (simp only [rmv]; omega)) (by first | decide | (simp only [rmv]; omega)) (by first | decide | (simp only [rmv]; omega)) dX2_findPurchase_3 (ko0 ?_)
  refine r_aload_n X dX2_findPurchase_6 (i := 0) rfl rfl ?_
  refine r_iconst X dX2_findPurchase_7 (v := nI 0) (by decide) ?_
  refine r_iconst X dX2_findPurchase_8 (v := nI 0) (by decide) ?_
  refine r_callS X (c_X2_searchPurchase hnt hw 12 0 _ _ (by omega) (by first | with_reducible assumption | with_reducible rfl | omega | (with_reducible (repeat (first | assumption | refine DI_chg ?_ | refine DI_fc ?_ | refine DI_fp ?_ | refine DI_cv ?_ | refine DI_sc ?_ | refine DI_sp ?_ | refine DI_tc ?_ | refine DI_tp ?_ | refine DI_svB ?_ | refine DI_give ?_ | refine DI_tk ?_ | refine DI_keep ?_ | refine DI_cls ?_ | refine DI_clS ?_ | refine DI_clr ?_ | refine DI_scr rfl ?_)); done))) mw_X2_searchPurchase mi_X2_searchPurchase ml_X2_250 rfl rfl (Nat.le_of_ble_eq_true rfl) (by first | decide | (simp only [rmv]; omega)) (by first | decide | (simp only [rmv]; omega)) (by first | decide | (simp only [rmv]; omega)) (by first | decide | (simp only [rmv]; omega)) dX2_findPurchase_9 (ko0 ?_)
  refine r_aload_n X dX2_findPurchase_12 (i := 0) rfl rfl ?_
  refine r_get X kc2 (j := 9) (hw.2 _ _ (by first | decide | (simp [cnt] <;> omega))) ev2 (by decide) rfl fl_X2_197 dX2_findPurchase_13 ?_
  refine r_iret X dX2_findPurchase_16 (by first | decide | (simp only [rmv]; omega)) (by first | decide | (simp only [rmv]; omega)) ?_
  first | with_reducible rfl | (rfl; done) | contradiction | with_reducible assumption

set_option maxHeartbeats 4000000 in
set_option maxRecDepth 100000 in
theorem c_X2_fitting {l : Launch} {w : Wo} {M : Mem} {G : Lng} {x : Int32} (hnt : l.stackTraces = false) (hw : WK w)  : CT l yX2_fitting [Cond.code yX2_fitting cX2_fitting 2 (some .int)] 7 4 24 w [.ref (w.1 (2, 0)), .int x] M G (oFitting M G x) := by
  refine CT_of hnt hw.1 mw_X2_fitting (by simp [Value.category]) (Nat.le_of_ble_eq_true rfl) (fun p e s m args below meth c X => ?_)
  refine r_aload_n X dX2_fitting_0 (i := 0) rfl rfl ?_
  refine r_aload_n X dX2_fitting_1 (i := 0) rfl rfl ?_
  refine r_iload_n X dX2_fitting_2 (i := 1) rfl rfl ?_
  refine r_callV X (c_X2_installAt hnt hw ) mw_X2_installAt kc2 mi_X2_installAt (hw.2 _ _ (by first | decide | (simp [cnt] <;> omega))) ev2 ml_X2_71 rfl rfl (Nat.le_of_ble_eq_true rfl) (by first | decide | (simp only [rmv]; omega)) (by first | decide | (simp only [rmv]; omega)) (by first | decide | (simp only [rmv]; omega)) (by first | decide | (simp only [rmv]; omega)) dX2_fitting_3 (koi (fun h1 => ko1 ?_) (fun h1 => kox ?_))
  · have hx1 := (thr_Rg h1).1
    have hx2 := (thr_Rg h1).2
    refine r_callV X (c_X2_countFitting hnt hw (by first | with_reducible assumption | with_reducible rfl | omega | (with_reducible (repeat (first | assumption | refine DI_chg ?_ | refine DI_fc ?_ | refine DI_fp ?_ | refine DI_cv ?_ | refine DI_sc ?_ | refine DI_sp ?_ | refine DI_tc ?_ | refine DI_tp ?_ | refine DI_svB ?_ | refine DI_give ?_ | refine DI_tk ?_ | refine DI_keep ?_ | refine DI_cls ?_ | refine DI_clS ?_ | refine DI_clr ?_ | refine DI_scr rfl ?_)); done))) mw_X2_countFitting kc2 mi_X2_countFitting (hw.2 _ _ (by first | decide | (simp [cnt] <;> omega))) ev2 ml_X2_161 rfl rfl (Nat.le_of_ble_eq_true rfl) (by first | decide | (simp only [rmv]; omega)) (by first | decide | (simp only [rmv]; omega)) (by first | decide | (simp only [rmv]; omega)) (by first | decide | (simp only [rmv]; omega)) dX2_fitting_6 (ko1 ?_)
    refine r_iret X dX2_fitting_9 (by first | decide | (simp only [rmv]; omega)) (by first | decide | (simp only [rmv]; omega)) ?_
    first | with_reducible rfl | (simp [oFitting, ms_o, ms_s, h1]; done) | contradiction | with_reducible assumption
  · refine r_out X (by first | decide | (simp only [rmv]; omega)) (by first | decide | (simp only [rmv]; omega)) ?_
    simp [oFitting, ms_o, ms_s, h1]

set_option maxHeartbeats 4000000 in
set_option maxRecDepth 100000 in
theorem lp_firstFitting {p : Program} {l : Launch} {e : Env} {s : State} {m : MethodId} {args : Array Value} {below : List Frame} {meth : Method} {c : Code} {w : Wo} {M : Mem} {G : Lng} {i : Nat} {x : Int32} (hnt : l.stackTraces = false) (hw : WK w) (X : Cx p l (rmv 7 4 24) s m args meth c cX2_firstFitting 4 yX2_firstFitting.cls (some .int) [] w) (hi : i < 12) : ∀ (n k : Nat), k + n = 5 → ∀ oo : Oc, oo = ffO M G i n k → VE p l e (rmv 7 4 24) s m args below meth c (0 + 1) (0 + 6) (QV w (oo) below args s 4 24) 4 w 8 [some (.ref (w.1 (2, 0))), some (.int x), some (.ref (w.1 (1, i))), some (.int (nI k))] [] (ev w (M) (G)) := by
  intro n
  induction n with
  | zero =>
    intro k hk oo ho
    refine r_iload_n X dX2_firstFitting_8 (i := 3) rfl rfl ?_
    refine r_iconst X dX2_firstFitting_9 (v := nI 5) (by decide) ?_
    first | with_reducible refine r_icmpn_ge X dX2_firstFitting_10 (tgt := 34) (by decide) (by omega) (by omega) (fun h1 => ?_) (fun h1 => ?_) | refine r_icmp_ge X dX2_firstFitting_10 (tgt := 34) (by decide) (fun h1 => ?_) (fun h1 => ?_)
    · refine r_throwN X dnse_0 dnse_1 dnse_2 dnse_5 kl_169 ki_xNSE (sw_171) at_xNSE dX2_firstFitting_34 dX2_firstFitting_37 dX2_firstFitting_38 dX2_firstFitting_40 dX2_firstFitting_43 (by first | decide | (simp only [rmv]; omega)) (by first | decide | (simp [Value.category, rmv] <;> omega)) (by first | decide | (simp only [rmv]; omega)) (by first | decide | (simp only [rmv]; omega)) (by first | decide | (simp only [rmv]; omega)) (by first | decide | (simp only [rmv]; omega)) ?_
      simp [ho, ffO, h1]
    · exact absurd h1 (by omega)
  | succ n ih =>
    intro k hk oo ho
    refine r_iload_n X dX2_firstFitting_8 (i := 3) rfl rfl ?_
    refine r_iconst X dX2_firstFitting_9 (v := nI 5) (by decide) ?_
    first | with_reducible refine r_icmpn_ge X dX2_firstFitting_10 (tgt := 34) (by decide) (by omega) (by omega) (fun h1 => ?_) (fun h1 => ?_) | refine r_icmp_ge X dX2_firstFitting_10 (tgt := 34) (by decide) (fun h1 => ?_) (fun h1 => ?_)
    · exact absurd h1 (by omega)
    · refine r_aload_n X dX2_firstFitting_13 (i := 0) rfl rfl ?_
      refine r_get X kc2 (j := 1) (hw.2 _ _ (by first | decide | (simp [cnt] <;> omega))) ev2 (by decide) rfl fl_X2_18 dX2_firstFitting_14 ?_
      refine r_iload_n X dX2_firstFitting_17 (i := 3) rfl rfl ?_
      first | refine r_aald X (t0 := 6) (hw.2 _ _ (by first | decide | (simp [cnt] <;> omega))) rfl ev4 (by first | with_reducible rfl | with_reducible assumption | (rw [pk_mul, nI_add])) (by first | with_reducible assumption | omega) (by decide) rfl dX2_firstFitting_18 ?_ | refine r_aald X (t0 := 5) (hw.2 _ _ (by first | decide | (simp [cnt] <;> omega))) rfl ev5 (by first | with_reducible rfl | with_reducible assumption | (rw [pk_mul, nI_add])) (by first | with_reducible assumption | omega) (by decide) rfl dX2_firstFitting_18 ?_
      refine r_aload_n X dX2_firstFitting_19 (i := 2) rfl rfl ?_
      refine r_callVN X (c_X0_fits hnt hw (by first | with_reducible assumption | with_reducible rfl | omega | (with_reducible (repeat (first | assumption | refine DI_chg ?_ | refine DI_fc ?_ | refine DI_fp ?_ | refine DI_cv ?_ | refine DI_sc ?_ | refine DI_sp ?_ | refine DI_tc ?_ | refine DI_tp ?_ | refine DI_svB ?_ | refine DI_give ?_ | refine DI_tk ?_ | refine DI_keep ?_ | refine DI_cls ?_ | refine DI_clS ?_ | refine DI_clr ?_ | refine DI_scr rfl ?_)); done)) (by first | with_reducible assumption | with_reducible rfl | omega | (with_reducible (repeat (first | assumption | refine DI_chg ?_ | refine DI_fc ?_ | refine DI_fp ?_ | refine DI_cv ?_ | refine DI_sc ?_ | refine DI_sp ?_ | refine DI_tc ?_ | refine DI_tp ?_ | refine DI_svB ?_ | refine DI_give ?_ | refine DI_tk ?_ | refine DI_keep ?_ | refine DI_cls ?_ | refine DI_clS ?_ | refine DI_clr ?_ | refine DI_scr rfl ?_)); done))) mw_X0_fits kc0 mi_X0_fits (hw.2 _ _ (by first | decide | (simp [cnt] <;> omega))) ev0 ml_X2_165 rfl rfl (Nat.le_of_ble_eq_true rfl) (by first | decide | (simp only [rmv]; omega)) (by first | decide | (simp only [rmv]; omega)) (by first | decide | (simp only [rmv]; omega)) (by first | decide | (simp only [rmv]; omega)) dX2_firstFitting_20 (ko1 ?_)
      first | with_reducible refine r_ifb_eq X dX2_firstFitting_23 (tgt := 28) (by decide) (fun h2 => ?_) (fun h2 => ?_) | refine r_if_eq X dX2_firstFitting_23 (tgt := 28) (by decide) (fun h2 => ?_) (fun h2 => ?_)
      · first | with_reducible refine r_iincn X dX2_firstFitting_28 rfl (by decide) rfl ?_ | refine r_iinc1 X dX2_firstFitting_28 rfl (by decide) rfl ?_
        refine r_goto X dX2_firstFitting_31 (tgt := 8) (by decide) ?_
        exact ih (k + 1) (by omega) oo (by rw [ho]; simp [ffO, h1, h2])
      · refine r_iload_n X dX2_firstFitting_26 (i := 3) rfl rfl ?_
        refine r_iret X dX2_firstFitting_27 (by first | decide | (simp only [rmv]; omega)) (by first | decide | (simp only [rmv]; omega)) ?_
        first | with_reducible rfl | (simp [ho, ffO, h1, h2]; done) | contradiction | with_reducible assumption

set_option maxHeartbeats 4000000 in
set_option maxRecDepth 100000 in
theorem c_X2_firstFitting {l : Launch} {w : Wo} {M : Mem} {G : Lng} {x : Int32} (hnt : l.stackTraces = false) (hw : WK w)  : CT l yX2_firstFitting [Cond.code yX2_firstFitting cX2_firstFitting 4 (some .int)] 7 4 24 w [.ref (w.1 (2, 0)), .int x] M G (oFirst M G x) := by
  refine CT_of hnt hw.1 mw_X2_firstFitting (by simp [Value.category]) (Nat.le_of_ble_eq_true rfl) (fun p e s m args below meth c X => ?_)
  refine r_aload_n X dX2_firstFitting_0 (i := 0) rfl rfl ?_
  refine r_iload_n X dX2_firstFitting_1 (i := 1) rfl rfl ?_
  refine r_callV X (c_X2_installAt hnt hw ) mw_X2_installAt kc2 mi_X2_installAt (hw.2 _ _ (by first | decide | (simp [cnt] <;> omega))) ev2 ml_X2_71 rfl rfl (Nat.le_of_ble_eq_true rfl) (by first | decide | (simp only [rmv]; omega)) (by first | decide | (simp only [rmv]; omega)) (by first | decide | (simp only [rmv]; omega)) (by first | decide | (simp only [rmv]; omega)) dX2_firstFitting_2 (koi (fun h1 => ko1 ?_) (fun h1 => kox ?_))
  · have hx1 := (thr_Rg h1).1
    have hx2 := (thr_Rg h1).2
    refine r_astore_n X dX2_firstFitting_5 (i := 2) rfl (by decide) rfl ?_
    refine r_iconst X dX2_firstFitting_6 (v := nI 0) (by decide) ?_
    refine r_istore_n X dX2_firstFitting_7 (i := 3) rfl (by decide) rfl ?_
    exact lp_firstFitting hnt hw X hx2 5 0 rfl _ (by simp [oFirst, h1])
  · refine r_out X (by first | decide | (simp only [rmv]; omega)) (by first | decide | (simp only [rmv]; omega)) ?_
    simp [oFirst, ms_o, ms_s, h1]

set_option maxHeartbeats 4000000 in
set_option maxRecDepth 100000 in
theorem lp_ufa {p : Program} {l : Launch} {e : Env} {s : State} {m : MethodId} {args : Array Value} {below : List Frame} {meth : Method} {c : Code} {w : Wo} {M : Mem} {G : Lng} {i : Nat} {x : Int32} (hnt : l.stackTraces = false) (hw : WK w) (X : Cx p l (rmv 7 4 24) s m args meth c cX2_unitsForAll 4 yX2_unitsForAll.cls (some .int) [] w) (hi : i < 5) : ∀ (n k : Nat) (M1 : Mem), k + n = 12 → M1 = itn (ufG i) k (clr M i) → DI M1 → VE p l e (rmv 7 4 24) s m args below meth c (0 + 1) (0 + 6) (QV w (okO (some (.int (ufa M i 0 i 12))) (ufa M i) G) below args s 4 24) 4 w 12 [some (.ref (w.1 (2, 0))), some (.int x), some (.ref (w.1 (0, i))), some (.int (nI k))] [] (ev w (M1) (G)) := by
  intro n
  induction n with
  | zero =>
    intro k M1 hk hM hD1
    refine r_iload_n X dX2_unitsForAll_12 (i := 3) rfl rfl ?_
    refine r_bipush X dX2_unitsForAll_13 (v := nI 12) (by decide) ?_
    first | with_reducible refine r_icmpn_ge X dX2_unitsForAll_15 (tgt := 47) (by decide) (by omega) (by omega) (fun h1 => ?_) (fun h1 => ?_) | refine r_icmp_ge X dX2_unitsForAll_15 (tgt := 47) (by decide) (fun h1 => ?_) (fun h1 => ?_)
    · refine r_aload_n X dX2_unitsForAll_47 (i := 2) rfl rfl ?_
      refine r_getN X kc0 (j := 12) (hw.2 _ _ (by first | decide | (simp [cnt] <;> omega))) ev0 (by decide) rfl fl_X2_181 dX2_unitsForAll_48 ?_
      refine r_iret X dX2_unitsForAll_51 (by first | decide | (simp only [rmv]; omega)) (by first | decide | (simp only [rmv]; omega)) ?_
      first | with_reducible rfl | (rw [hM, show k = 12 by omega]; rfl; done) | contradiction | with_reducible assumption
    · exact absurd h1 (by omega)
  | succ n ih =>
    intro k M1 hk hM hD1
    refine r_iload_n X dX2_unitsForAll_12 (i := 3) rfl rfl ?_
    refine r_bipush X dX2_unitsForAll_13 (v := nI 12) (by decide) ?_
    first | with_reducible refine r_icmpn_ge X dX2_unitsForAll_15 (tgt := 47) (by decide) (by omega) (by omega) (fun h1 => ?_) (fun h1 => ?_) | refine r_icmp_ge X dX2_unitsForAll_15 (tgt := 47) (by decide) (fun h1 => ?_) (fun h1 => ?_)
    · exact absurd h1 (by omega)
    · refine r_aload_n X dX2_unitsForAll_18 (i := 2) rfl rfl ?_
      refine r_aload_n X dX2_unitsForAll_19 (i := 0) rfl rfl ?_
      refine r_get X kc2 (j := 0) (hw.2 _ _ (by first | decide | (simp [cnt] <;> omega))) ev2 (by decide) rfl fl_X2_11 dX2_unitsForAll_20 ?_
      refine r_iload_n X dX2_unitsForAll_23 (i := 3) rfl rfl ?_
      first | refine r_aald X (t0 := 6) (hw.2 _ _ (by first | decide | (simp [cnt] <;> omega))) rfl ev4 (by first | with_reducible rfl | with_reducible assumption | (rw [pk_mul, nI_add])) (by first | with_reducible assumption | omega) (by decide) rfl dX2_unitsForAll_24 ?_ | refine r_aald X (t0 := 5) (hw.2 _ _ (by first | decide | (simp [cnt] <;> omega))) rfl ev5 (by first | with_reducible rfl | with_reducible assumption | (rw [pk_mul, nI_add])) (by first | with_reducible assumption | omega) (by decide) rfl dX2_unitsForAll_24 ?_
      refine r_callVN X (c_X0_fits hnt hw (by first | with_reducible assumption | with_reducible rfl | omega | (with_reducible (repeat (first | assumption | refine DI_chg ?_ | refine DI_fc ?_ | refine DI_fp ?_ | refine DI_cv ?_ | refine DI_sc ?_ | refine DI_sp ?_ | refine DI_tc ?_ | refine DI_tp ?_ | refine DI_svB ?_ | refine DI_give ?_ | refine DI_tk ?_ | refine DI_keep ?_ | refine DI_cls ?_ | refine DI_clS ?_ | refine DI_clr ?_ | refine DI_scr rfl ?_)); done)) (by first | with_reducible assumption | with_reducible rfl | omega | (with_reducible (repeat (first | assumption | refine DI_chg ?_ | refine DI_fc ?_ | refine DI_fp ?_ | refine DI_cv ?_ | refine DI_sc ?_ | refine DI_sp ?_ | refine DI_tc ?_ | refine DI_tp ?_ | refine DI_svB ?_ | refine DI_give ?_ | refine DI_tk ?_ | refine DI_keep ?_ | refine DI_cls ?_ | refine DI_clS ?_ | refine DI_clr ?_ | refine DI_scr rfl ?_)); done))) mw_X0_fits kc0 mi_X0_fits (hw.2 _ _ (by first | decide | (simp [cnt] <;> omega))) ev0 ml_X2_165 rfl rfl (Nat.le_of_ble_eq_true rfl) (by first | decide | (simp only [rmv]; omega)) (by first | decide | (simp only [rmv]; omega)) (by first | decide | (simp only [rmv]; omega)) (by first | decide | (simp only [rmv]; omega)) dX2_unitsForAll_25 (ko1 ?_)
      first | with_reducible refine r_ifb_eq X dX2_unitsForAll_28 (tgt := 41) (by decide) (fun h2 => ?_) (fun h2 => ?_) | refine r_if_eq X dX2_unitsForAll_28 (tgt := 41) (by decide) (fun h2 => ?_) (fun h2 => ?_)
      · first | with_reducible refine r_iincn X dX2_unitsForAll_41 rfl (by decide) rfl ?_ | refine r_iinc1 X dX2_unitsForAll_41 rfl (by decide) rfl ?_
        refine r_goto X dX2_unitsForAll_44 (tgt := 12) (by decide) ?_
        exact ih (k + 1) _ (by omega) (by rw [itn, ← hM]; simp [ufG, h1, h2]) (by first | with_reducible assumption | with_reducible rfl | omega | (with_reducible (repeat (first | assumption | refine DI_chg ?_ | refine DI_fc ?_ | refine DI_fp ?_ | refine DI_cv ?_ | refine DI_sc ?_ | refine DI_sp ?_ | refine DI_tc ?_ | refine DI_tp ?_ | refine DI_svB ?_ | refine DI_give ?_ | refine DI_tk ?_ | refine DI_keep ?_ | refine DI_cls ?_ | refine DI_clS ?_ | refine DI_clr ?_ | refine DI_scr rfl ?_)); done))
      · refine r_aload_n X dX2_unitsForAll_31 (i := 2) rfl rfl ?_
        refine r_aload_n X dX2_unitsForAll_32 (i := 0) rfl rfl ?_
        refine r_get X kc2 (j := 0) (hw.2 _ _ (by first | decide | (simp [cnt] <;> omega))) ev2 (by decide) rfl fl_X2_11 dX2_unitsForAll_33 ?_
        refine r_iload_n X dX2_unitsForAll_36 (i := 3) rfl rfl ?_
        first | refine r_aald X (t0 := 6) (hw.2 _ _ (by first | decide | (simp [cnt] <;> omega))) rfl ev4 (by first | with_reducible rfl | with_reducible assumption | (rw [pk_mul, nI_add])) (by first | with_reducible assumption | omega) (by decide) rfl dX2_unitsForAll_37 ?_ | refine r_aald X (t0 := 5) (hw.2 _ _ (by first | decide | (simp [cnt] <;> omega))) rfl ev5 (by first | with_reducible rfl | with_reducible assumption | (rw [pk_mul, nI_add])) (by first | with_reducible assumption | omega) (by decide) rfl dX2_unitsForAll_37 ?_
        refine r_callVN X (c_X0_serve hnt hw (by first | with_reducible assumption | with_reducible rfl | omega | (with_reducible (repeat (first | assumption | refine DI_chg ?_ | refine DI_fc ?_ | refine DI_fp ?_ | refine DI_cv ?_ | refine DI_sc ?_ | refine DI_sp ?_ | refine DI_tc ?_ | refine DI_tp ?_ | refine DI_svB ?_ | refine DI_give ?_ | refine DI_tk ?_ | refine DI_keep ?_ | refine DI_cls ?_ | refine DI_clS ?_ | refine DI_clr ?_ | refine DI_scr rfl ?_)); done)) (by first | with_reducible assumption | with_reducible rfl | omega | (with_reducible (repeat (first | assumption | refine DI_chg ?_ | refine DI_fc ?_ | refine DI_fp ?_ | refine DI_cv ?_ | refine DI_sc ?_ | refine DI_sp ?_ | refine DI_tc ?_ | refine DI_tp ?_ | refine DI_svB ?_ | refine DI_give ?_ | refine DI_tk ?_ | refine DI_keep ?_ | refine DI_cls ?_ | refine DI_clS ?_ | refine DI_clr ?_ | refine DI_scr rfl ?_)); done)) (by first | with_reducible assumption | with_reducible rfl | omega | (with_reducible (repeat (first | assumption | refine DI_chg ?_ | refine DI_fc ?_ | refine DI_fp ?_ | refine DI_cv ?_ | refine DI_sc ?_ | refine DI_sp ?_ | refine DI_tc ?_ | refine DI_tp ?_ | refine DI_svB ?_ | refine DI_give ?_ | refine DI_tk ?_ | refine DI_keep ?_ | refine DI_cls ?_ | refine DI_clS ?_ | refine DI_clr ?_ | refine DI_scr rfl ?_)); done))) mw_X0_serve kc0 mi_X0_serve (hw.2 _ _ (by first | decide | (simp [cnt] <;> omega))) ev0 ml_X2_177 rfl rfl (Nat.le_of_ble_eq_true rfl) (by first | decide | (simp only [rmv]; omega)) (by first | decide | (simp only [rmv]; omega)) (by first | decide | (simp only [rmv]; omega)) (by first | decide | (simp only [rmv]; omega)) dX2_unitsForAll_38 (ko0 ?_)
        first | with_reducible refine r_iincn X dX2_unitsForAll_41 rfl (by decide) rfl ?_ | refine r_iinc1 X dX2_unitsForAll_41 rfl (by decide) rfl ?_
        refine r_goto X dX2_unitsForAll_44 (tgt := 12) (by decide) ?_
        exact ih (k + 1) _ (by omega) (by rw [itn, ← hM]; simp [ufG, h1, h2]) (by first | with_reducible assumption | with_reducible rfl | omega | (with_reducible (repeat (first | assumption | refine DI_chg ?_ | refine DI_fc ?_ | refine DI_fp ?_ | refine DI_cv ?_ | refine DI_sc ?_ | refine DI_sp ?_ | refine DI_tc ?_ | refine DI_tp ?_ | refine DI_svB ?_ | refine DI_give ?_ | refine DI_tk ?_ | refine DI_keep ?_ | refine DI_cls ?_ | refine DI_clS ?_ | refine DI_clr ?_ | refine DI_scr rfl ?_)); done))

set_option maxHeartbeats 4000000 in
set_option maxRecDepth 100000 in
theorem c_X2_unitsForAll {l : Launch} {w : Wo} {M : Mem} {G : Lng} {x : Int32} (hnt : l.stackTraces = false) (hw : WK w) (hD : DI M) : CT l yX2_unitsForAll [Cond.code yX2_unitsForAll cX2_unitsForAll 4 (some .int)] 7 4 24 w [.ref (w.1 (2, 0)), .int x] M G (oUFA M G x) := by
  refine CT_of hnt hw.1 mw_X2_unitsForAll (by simp [Value.category]) (Nat.le_of_ble_eq_true rfl) (fun p e s m args below meth c X => ?_)
  refine r_aload_n X dX2_unitsForAll_0 (i := 0) rfl rfl ?_
  refine r_iload_n X dX2_unitsForAll_1 (i := 1) rfl rfl ?_
  refine r_callV X (c_X2_entitlementAt hnt hw (by first | with_reducible assumption | with_reducible rfl | omega | (with_reducible (repeat (first | assumption | refine DI_chg ?_ | refine DI_fc ?_ | refine DI_fp ?_ | refine DI_cv ?_ | refine DI_sc ?_ | refine DI_sp ?_ | refine DI_tc ?_ | refine DI_tp ?_ | refine DI_svB ?_ | refine DI_give ?_ | refine DI_tk ?_ | refine DI_keep ?_ | refine DI_cls ?_ | refine DI_clS ?_ | refine DI_clr ?_ | refine DI_scr rfl ?_)); done))) mw_X2_entitlementAt kc2 mi_X2_entitlementAt (hw.2 _ _ (by first | decide | (simp [cnt] <;> omega))) ev2 ml_X2_114 rfl rfl (Nat.le_of_ble_eq_true rfl) (by first | decide | (simp only [rmv]; omega)) (by first | decide | (simp only [rmv]; omega)) (by first | decide | (simp only [rmv]; omega)) (by first | decide | (simp only [rmv]; omega)) dX2_unitsForAll_2 (koi (fun h1 => ko1 ?_) (fun h1 => kox ?_))
  · have hy1 := (eth_Rg hD h1).1
    have hy2 := (eth_Rg hD h1).2
    refine r_astore_n X dX2_unitsForAll_5 (i := 2) rfl (by decide) rfl ?_
    refine r_aload_n X dX2_unitsForAll_6 (i := 2) rfl rfl ?_
    refine r_callVN X (c_X0_clearNeed hnt hw (by first | with_reducible assumption | with_reducible rfl | omega | (with_reducible (repeat (first | assumption | refine DI_chg ?_ | refine DI_fc ?_ | refine DI_fp ?_ | refine DI_cv ?_ | refine DI_sc ?_ | refine DI_sp ?_ | refine DI_tc ?_ | refine DI_tp ?_ | refine DI_svB ?_ | refine DI_give ?_ | refine DI_tk ?_ | refine DI_keep ?_ | refine DI_cls ?_ | refine DI_clS ?_ | refine DI_clr ?_ | refine DI_scr rfl ?_)); done))) mw_X0_clearNeed kc0 mi_X0_clearNeed (hw.2 _ _ (by first | decide | (simp [cnt] <;> omega))) ev0 ml_X2_174 rfl rfl (Nat.le_of_ble_eq_true rfl) (by first | decide | (simp only [rmv]; omega)) (by first | decide | (simp only [rmv]; omega)) (by first | decide | (simp only [rmv]; omega)) (by first | decide | (simp only [rmv]; omega)) dX2_unitsForAll_7 (ko0 ?_)
    refine r_iconst X dX2_unitsForAll_10 (v := nI 0) (by decide) ?_
    refine r_istore_n X dX2_unitsForAll_11 (i := 3) rfl (by decide) rfl ?_
    have ho : oUFA M G x = okO (some (.int (ufa M (ix x) 0 (ix x) 12))) (ufa M (ix x)) G := by simp [oUFA, h1]
    rw [ho]
    exact lp_ufa hnt hw X hy2 12 0 _ rfl rfl (by first | with_reducible assumption | with_reducible rfl | omega | (with_reducible (repeat (first | assumption | refine DI_chg ?_ | refine DI_fc ?_ | refine DI_fp ?_ | refine DI_cv ?_ | refine DI_sc ?_ | refine DI_sp ?_ | refine DI_tc ?_ | refine DI_tp ?_ | refine DI_svB ?_ | refine DI_give ?_ | refine DI_tk ?_ | refine DI_keep ?_ | refine DI_cls ?_ | refine DI_clS ?_ | refine DI_clr ?_ | refine DI_scr rfl ?_)); done))
  · refine r_out X (by first | decide | (simp only [rmv]; omega)) (by first | decide | (simp only [rmv]; omega)) ?_
    simp [oUFA, ms_o, ms_s, h1]

set_option maxHeartbeats 4000000 in
set_option maxRecDepth 100000 in
theorem c_X2_covered {l : Launch} {w : Wo} {M : Mem} {G : Lng}  (hnt : l.stackTraces = false) (hw : WK w) (hD : DI M) : CT l yX2_covered [Cond.code yX2_covered cX2_covered 1 (some .int)] 24 0 0 w [.ref (w.1 (2, 0))] M G (okO (some (.int (fcM M 2 0 9))) (fcM M) G) := by
  refine CT_of hnt hw.1 mw_X2_covered (by simp [Value.category]) (Nat.le_of_ble_eq_true rfl) (fun p e s m args below meth c X => ?_)
  refine r_aload_n X dX2_covered_0 (i := 0) rfl rfl ?_
  refine r_callV X (c_X2_findCover hnt hw (by first | with_reducible assumption | with_reducible rfl | omega | (with_reducible (repeat (first | assumption | refine DI_chg ?_ | refine DI_fc ?_ | refine DI_fp ?_ | refine DI_cv ?_ | refine DI_sc ?_ | refine DI_sp ?_ | refine DI_tc ?_ | refine DI_tp ?_ | refine DI_svB ?_ | refine DI_give ?_ | refine DI_tk ?_ | refine DI_keep ?_ | refine DI_cls ?_ | refine DI_clS ?_ | refine DI_clr ?_ | refine DI_scr rfl ?_)); done))) mw_X2_findCover kc2 mi_X2_findCover (hw.2 _ _ (by first | decide | (simp [cnt] <;> omega))) ev2 ml_X2_184 rfl rfl (Nat.le_of_ble_eq_true rfl) (by first | decide | (simp only [rmv]; omega)) (by first | decide | (simp only [rmv]; omega)) (by first | decide | (simp only [rmv]; omega)) (by first | decide | (simp only [rmv]; omega)) dX2_covered_1 (ko1 ?_)
  refine r_iret X dX2_covered_4 (by first | decide | (simp only [rmv]; omega)) (by first | decide | (simp only [rmv]; omega)) ?_
  first | with_reducible rfl | (simp []; done) | contradiction | with_reducible assumption

set_option maxHeartbeats 4000000 in
set_option maxRecDepth 100000 in
theorem c_X2_coveredByTrying {l : Launch} {w : Wo} {M : Mem} {G : Lng}  (hnt : l.stackTraces = false) (hw : WK w) (hD : DI M) : CT l yX2_coveredByTrying [Cond.code yX2_coveredByTrying cX2_coveredByTrying 1 (some .int)] 24 4 24 w [.ref (w.1 (2, 0))] M G (oCT M G) := by
  refine CT_of hnt hw.1 mw_X2_coveredByTrying (by simp [Value.category]) (Nat.le_of_ble_eq_true rfl) (fun p e s m args below meth c X => ?_)
  refine r_aload_n X dX2_coveredByTrying_0 (i := 0) rfl rfl ?_
  refine r_get X kc2 (j := 3) (hw.2 _ _ (by first | decide | (simp [cnt] <;> omega))) ev2 (by decide) rfl fl_X2_55 dX2_coveredByTrying_1 ?_
  refine r_iconst X dX2_coveredByTrying_4 (v := nI 4) (by decide) ?_
  first | with_reducible refine r_icmpn_le X dX2_coveredByTrying_5 (tgt := 18) (by decide) (by omega) (by omega) (fun h1 => ?_) (fun h1 => ?_) | refine r_icmp_le X dX2_coveredByTrying_5 (tgt := 18) (by decide) (fun h1 => ?_) (fun h1 => ?_)
  · refine r_aload_n X dX2_coveredByTrying_18 (i := 0) rfl rfl ?_
    refine r_iconst X dX2_coveredByTrying_19 (v := -1) (by decide) ?_
    refine r_callV X (c_X2_clearSearch hnt hw ) mw_X2_clearSearch kc2 mi_X2_clearSearch (hw.2 _ _ (by first | decide | (simp [cnt] <;> omega))) ev2 ml_X2_189 rfl rfl (Nat.le_of_ble_eq_true rfl) (by first | decide | (simp only [rmv]; omega)) (by first | decide | (simp only [rmv]; omega)) (by first | decide | (simp only [rmv]; omega)) (by first | decide | (simp only [rmv]; omega)) dX2_coveredByTrying_20 (ko0 ?_)
    refine r_aload_n X dX2_coveredByTrying_23 (i := 0) rfl rfl ?_
    refine r_iconst X dX2_coveredByTrying_24 (v := nI 0) (by decide) ?_
    refine r_callS X (c_X2_tryCovers hnt hw 12 0 _ (by omega) (by first | with_reducible assumption | with_reducible rfl | omega | (with_reducible (repeat (first | assumption | refine DI_chg ?_ | refine DI_fc ?_ | refine DI_fp ?_ | refine DI_cv ?_ | refine DI_sc ?_ | refine DI_sp ?_ | refine DI_tc ?_ | refine DI_tp ?_ | refine DI_svB ?_ | refine DI_give ?_ | refine DI_tk ?_ | refine DI_keep ?_ | refine DI_cls ?_ | refine DI_clS ?_ | refine DI_clr ?_ | refine DI_scr rfl ?_)); done))) mw_X2_tryCovers mi_X2_tryCovers ml_X2_193 rfl rfl (Nat.le_of_ble_eq_true rfl) (by first | decide | (simp only [rmv]; omega)) (by first | decide | (simp only [rmv]; omega)) (by first | decide | (simp only [rmv]; omega)) (by first | decide | (simp only [rmv]; omega)) dX2_coveredByTrying_25 (ko0 ?_)
    refine r_aload_n X dX2_coveredByTrying_28 (i := 0) rfl rfl ?_
    refine r_get X kc2 (j := 9) (hw.2 _ _ (by first | decide | (simp [cnt] <;> omega))) ev2 (by decide) rfl fl_X2_197 dX2_coveredByTrying_29 ?_
    refine r_iret X dX2_coveredByTrying_32 (by first | decide | (simp only [rmv]; omega)) (by first | decide | (simp only [rmv]; omega)) ?_
    first | with_reducible rfl | (simp [oCT, tcM, h1]; done) | contradiction | with_reducible assumption
  · refine r_throwS X (cls := xUOE) (by decide +kernel) kl_137 ki_xUOE (sw_187) at_xUOE dX2_coveredByTrying_8 dX2_coveredByTrying_11 dX2_coveredByTrying_12 dX2_coveredByTrying_14 dX2_coveredByTrying_17 (by first | decide | (simp only [rmv]; omega)) (by first | decide | (simp [Value.category, rmv] <;> omega)) (by first | decide | (simp only [rmv]; omega)) (by first | decide | (simp only [rmv]; omega)) (by first | decide | (simp only [rmv]; omega)) (by first | decide | (simp only [rmv]; omega)) ?_
    simp [oCT, tcM, h1]

theorem fit_sm {M M1 : Mem} (h : Sm M M1) (e i : Nat) : fit M1 e i = fit M e i := by
  unfold fit mis
  rw [h 1 i 0 rfl, h 0 e 0 rfl, h 1 i 1 rfl, h 0 e 5 rfl, h 1 i 7 rfl, h 0 e 2 rfl, h 1 i 3 rfl, h 0 e 8 rfl, h 0 e 1 rfl, h 1 i 2 rfl, h 0 e 9 rfl]
theorem cf_sm {M M1 : Mem} (h : Sm M M1) (i : Nat) : ∀ k, cf M1 i k = cf M i k
  | 0 => rfl
  | k + 1 => by unfold cf; rw [fit_sm h, cf_sm h i k]
theorem thr_sm {M M1 : Mem} (h : Sm M M1) (x : Int32) : thr M1 x = thr M x := by unfold thr; rw [h 1 (ix x) 0 rfl]
theorem eth_sm {M M1 : Mem} (h : Sm M M1) (x : Int32) : eth M1 x = eth M x := by unfold eth; rw [h 2 0 4 rfl]
set_option maxHeartbeats 4000000 in
set_option maxRecDepth 100000 in
theorem c_X2_entitlementByCover {l : Launch} {w : Wo} {M : Mem} {G : Lng} {x : Int32} (hnt : l.stackTraces = false) (hw : WK w) (hD : DI M) : CT l yX2_entitlementByCover [Cond.code yX2_entitlementByCover cX2_entitlementByCover 2 (some .int)] 24 4 24 w [.ref (w.1 (2, 0)), .int x] M G (if thr M x = true then okO (some (.int (fcM M 7 0 (ix x)))) (fcM M) G else thO xIOB M G) := by
  refine CT_of hnt hw.1 mw_X2_entitlementByCover (by simp [Value.category]) (Nat.le_of_ble_eq_true rfl) (fun p e s m args below meth c X => ?_)
  refine r_aload_n X dX2_entitlementByCover_0 (i := 0) rfl rfl ?_
  refine r_iload_n X dX2_entitlementByCover_1 (i := 1) rfl rfl ?_
  refine r_callV X (c_X2_isThere hnt hw ) mw_X2_isThere kc2 mi_X2_isThere (hw.2 _ _ (by first | decide | (simp [cnt] <;> omega))) ev2 ml_X2_234 rfl rfl (Nat.le_of_ble_eq_true rfl) (by first | decide | (simp only [rmv]; omega)) (by first | decide | (simp only [rmv]; omega)) (by first | decide | (simp only [rmv]; omega)) (by first | decide | (simp only [rmv]; omega)) dX2_entitlementByCover_2 (ko1 ?_)
  first | with_reducible refine r_ifb_ne X dX2_entitlementByCover_5 (tgt := 18) (by decide) (fun h1 => ?_) (fun h1 => ?_) | refine r_if_ne X dX2_entitlementByCover_5 (tgt := 18) (by decide) (fun h1 => ?_) (fun h1 => ?_)
  · have hx1 := (thr_Rg h1).1
    have hx2 := (thr_Rg h1).2
    refine r_aload_n X dX2_entitlementByCover_18 (i := 0) rfl rfl ?_
    refine r_callV X (c_X2_findCover hnt hw (by first | with_reducible assumption | with_reducible rfl | omega | (with_reducible (repeat (first | assumption | refine DI_chg ?_ | refine DI_fc ?_ | refine DI_fp ?_ | refine DI_cv ?_ | refine DI_sc ?_ | refine DI_sp ?_ | refine DI_tc ?_ | refine DI_tp ?_ | refine DI_svB ?_ | refine DI_give ?_ | refine DI_tk ?_ | refine DI_keep ?_ | refine DI_cls ?_ | refine DI_clS ?_ | refine DI_clr ?_ | refine DI_scr rfl ?_)); done))) mw_X2_findCover kc2 mi_X2_findCover (hw.2 _ _ (by first | decide | (simp [cnt] <;> omega))) ev2 ml_X2_184 rfl rfl (Nat.le_of_ble_eq_true rfl) (by first | decide | (simp only [rmv]; omega)) (by first | decide | (simp only [rmv]; omega)) (by first | decide | (simp only [rmv]; omega)) (by first | decide | (simp only [rmv]; omega)) dX2_entitlementByCover_19 (ko1 ?_)
    refine r_pop X dX2_entitlementByCover_22 rfl ?_
    refine r_aload_n X dX2_entitlementByCover_23 (i := 0) rfl rfl ?_
    refine r_get X kc2 (j := 7) (hw.2 _ _ (by first | decide | (simp [cnt] <;> omega))) ev2 (by decide) rfl fl_X2_27 dX2_entitlementByCover_24 ?_
    refine r_iload_n X dX2_entitlementByCover_27 (i := 1) rfl rfl ?_
    refine r_iald X (hw.2 _ _ (by first | decide | (simp [cnt] <;> omega))) (evA (by decide) (by decide)) (by first | with_reducible rfl | with_reducible assumption | (rw [pk_mul, nI_add])) (by first | with_reducible assumption | (simp [alen] <;> omega)) (by decide) dX2_entitlementByCover_28 ?_
    refine r_iret X dX2_entitlementByCover_29 (by first | decide | (simp only [rmv]; omega)) (by first | decide | (simp only [rmv]; omega)) ?_
    first | with_reducible rfl | (simp [h1]; done) | contradiction | with_reducible assumption
  · refine r_throwS X (cls := xIOB) (by decide +kernel) kl_237 ki_xIOB (sw_239) at_xIOB dX2_entitlementByCover_8 dX2_entitlementByCover_11 dX2_entitlementByCover_12 dX2_entitlementByCover_14 dX2_entitlementByCover_17 (by first | decide | (simp only [rmv]; omega)) (by first | decide | (simp [Value.category, rmv] <;> omega)) (by first | decide | (simp only [rmv]; omega)) (by first | decide | (simp only [rmv]; omega)) (by first | decide | (simp only [rmv]; omega)) (by first | decide | (simp only [rmv]; omega)) ?_
    simp [h1]

theorem c_X2_fitting_i {l : Launch} {w : Wo} {M : Mem} {G : Lng} {x : Int32} (hnt : l.stackTraces = false) (hw : WK w) : CT l yX2_fitting [Cond.code yX2_fitting cX2_fitting 2 (some .int)] 7 4 24 w [.ref (w.1 (2, 0)), .int x] M G (if thr M x = true then okO (some (.int (cf M (ix x) 5))) M G else thO xIOB M G) := c_X2_fitting hnt hw
set_option maxHeartbeats 4000000 in
set_option maxRecDepth 100000 in
theorem c_X2_entitlementOf {l : Launch} {w : Wo} {M : Mem} {G : Lng} {x : Int32} (hnt : l.stackTraces = false) (hw : WK w) (hD : DI M) : CT l yX2_entitlementOf [Cond.code yX2_entitlementOf cX2_entitlementOf 3 (some .int)] 25 8 48 w [.ref (w.1 (2, 0)), .int x] M G (oEOf M G x) := by
  refine CT_of hnt hw.1 mw_X2_entitlementOf (by simp [Value.category]) (Nat.le_of_ble_eq_true rfl) (fun p e s m args below meth c X => ?_)
  refine r_aload_n X dX2_entitlementOf_0 (i := 0) rfl rfl ?_
  refine r_iload_n X dX2_entitlementOf_1 (i := 1) rfl rfl ?_
  refine r_callV X (c_X2_entitlementByCover hnt hw (by first | with_reducible assumption | with_reducible rfl | omega | (with_reducible (repeat (first | assumption | refine DI_chg ?_ | refine DI_fc ?_ | refine DI_fp ?_ | refine DI_cv ?_ | refine DI_sc ?_ | refine DI_sp ?_ | refine DI_tc ?_ | refine DI_tp ?_ | refine DI_svB ?_ | refine DI_give ?_ | refine DI_tk ?_ | refine DI_keep ?_ | refine DI_cls ?_ | refine DI_clS ?_ | refine DI_clr ?_ | refine DI_scr rfl ?_)); done))) mw_X2_entitlementByCover kc2 mi_X2_entitlementByCover (hw.2 _ _ (by first | decide | (simp [cnt] <;> omega))) ev2 ml_X2_200 rfl rfl (Nat.le_of_ble_eq_true rfl) (by first | decide | (simp only [rmv]; omega)) (by first | decide | (simp only [rmv]; omega)) (by first | decide | (simp only [rmv]; omega)) (by first | decide | (simp only [rmv]; omega)) dX2_entitlementOf_2 (koi (fun h1 => ko1 ?_) (fun h1 => kox ?_))
  · refine r_istore_n X dX2_entitlementOf_5 (i := 2) rfl (by decide) rfl ?_
    refine r_iload_n X dX2_entitlementOf_6 (i := 2) rfl rfl ?_
    refine r_iconst X dX2_entitlementOf_7 (v := -1) (by decide) ?_
    first | with_reducible refine r_icmpn_ne X dX2_entitlementOf_8 (tgt := 21) (by decide) (by omega) (by omega) (fun h2 => ?_) (fun h2 => ?_) | refine r_icmp_ne X dX2_entitlementOf_8 (tgt := 21) (by decide) (fun h2 => ?_) (fun h2 => ?_)
    · refine r_iload_n X dX2_entitlementOf_21 (i := 2) rfl rfl ?_
      refine r_iret X dX2_entitlementOf_22 (by first | decide | (simp only [rmv]; omega)) (by first | decide | (simp only [rmv]; omega)) ?_
      first | with_reducible rfl | (simp [oEOf, h1, h2]; done) | contradiction | with_reducible assumption
    · refine r_throwN X dnse_0 dnse_1 dnse_2 dnse_5 kl_169 ki_xNSE (sw_204) at_xNSE dX2_entitlementOf_11 dX2_entitlementOf_14 dX2_entitlementOf_15 dX2_entitlementOf_17 dX2_entitlementOf_20 (by first | decide | (simp only [rmv]; omega)) (by first | decide | (simp [Value.category, rmv] <;> omega)) (by first | decide | (simp only [rmv]; omega)) (by first | decide | (simp only [rmv]; omega)) (by first | decide | (simp only [rmv]; omega)) (by first | decide | (simp only [rmv]; omega)) ?_
      simp [oEOf, h1, h2]
  · refine r_out X (by first | decide | (simp only [rmv]; omega)) (by first | decide | (simp only [rmv]; omega)) ?_
    simp [oEOf, h1]

theorem fit_ite (M : Mem) (G : Lng) (x : Int32) : oFitting M G x = if thr M x = true then okO (some (.int (cf M (ix x) 5))) M G else thO xIOB M G := rfl
set_option maxHeartbeats 4000000 in
set_option maxRecDepth 100000 in
theorem c_X2_reason {l : Launch} {w : Wo} {M : Mem} {G : Lng} {x : Int32} (hnt : l.stackTraces = false) (hw : WK w) (hD : DI M) : CT l yX2_reason [Cond.code yX2_reason cX2_reason 2 (some .char)] 25 16 96 w [.ref (w.1 (2, 0)), .int x] M G (oReason M G x) := by
  refine CT_of hnt hw.1 mw_X2_reason (by simp [Value.category]) (Nat.le_of_ble_eq_true rfl) (fun p e s m args below meth c X => ?_)
  refine r_aload_n X dX2_reason_0 (i := 0) rfl rfl ?_
  refine r_iload_n X dX2_reason_1 (i := 1) rfl rfl ?_
  refine r_callV X (c_X2_entitlementByCover hnt hw (by first | with_reducible assumption | with_reducible rfl | omega | (with_reducible (repeat (first | assumption | refine DI_chg ?_ | refine DI_fc ?_ | refine DI_fp ?_ | refine DI_cv ?_ | refine DI_sc ?_ | refine DI_sp ?_ | refine DI_tc ?_ | refine DI_tp ?_ | refine DI_svB ?_ | refine DI_give ?_ | refine DI_tk ?_ | refine DI_keep ?_ | refine DI_cls ?_ | refine DI_clS ?_ | refine DI_clr ?_ | refine DI_scr rfl ?_)); done))) mw_X2_entitlementByCover kc2 mi_X2_entitlementByCover (hw.2 _ _ (by first | decide | (simp [cnt] <;> omega))) ev2 ml_X2_200 rfl rfl (Nat.le_of_ble_eq_true rfl) (by first | decide | (simp only [rmv]; omega)) (by first | decide | (simp only [rmv]; omega)) (by first | decide | (simp only [rmv]; omega)) (by first | decide | (simp only [rmv]; omega)) dX2_reason_2 (koi (fun h1 => ko1 ?_) (fun h1 => kox ?_))
  · refine r_iconst X dX2_reason_5 (v := -1) (by decide) ?_
    first | with_reducible refine r_icmpn_eq X dX2_reason_6 (tgt := 12) (by decide) (by omega) (by omega) (fun h2 => ?_) (fun h2 => ?_) | refine r_icmp_eq X dX2_reason_6 (tgt := 12) (by decide) (fun h2 => ?_) (fun h2 => ?_)
    · refine r_aload_n X dX2_reason_12 (i := 0) rfl rfl ?_
      refine r_iload_n X dX2_reason_13 (i := 1) rfl rfl ?_
      refine r_callV X (c_X2_fitting_i hnt hw) mw_X2_fitting kc2 mi_X2_fitting (hw.2 _ _ (by first | decide | (simp [cnt] <;> omega))) ev2 ml_X2_206 rfl rfl (Nat.le_of_ble_eq_true rfl) (by first | decide | (simp only [rmv]; omega)) (by first | decide | (simp only [rmv]; omega)) (by first | decide | (simp only [rmv]; omega)) (by first | decide | (simp only [rmv]; omega)) dX2_reason_14 (koi (fun h3 => ko1 ?_) (fun h3 => kox ?_))
      · first | with_reducible refine r_ifb_ne X dX2_reason_17 (tgt := 25) (by decide) (fun h4 => ?_) (fun h4 => ?_) | refine r_if_ne X dX2_reason_17 (tgt := 25) (by decide) (fun h4 => ?_) (fun h4 => ?_)
        · refine r_bipush X dX2_reason_25 (v := nI 117) (by decide) ?_
          refine r_cret X dX2_reason_27 (by first | with_reducible exact mis_c _ _ _ | rfl | assumption) (by first | decide | (simp only [rmv]; omega)) (by first | decide | (simp only [rmv]; omega)) ?_
          first | with_reducible rfl | (first | (simp [oReason, h1, h2, h3, h4]; done) | exact absurd (thr_sm (M := M) (M1 := fcM M) (Sm_fc Sm.rf) x) (by simp [h1, h2, h3, h4]); done) | contradiction
        · refine r_bipush X dX2_reason_20 (v := nI 110) (by decide) ?_
          refine r_goto X dX2_reason_22 (tgt := 27) (by decide) ?_
          refine r_cret X dX2_reason_27 (by first | with_reducible exact mis_c _ _ _ | rfl | assumption) (by first | decide | (simp only [rmv]; omega)) (by first | decide | (simp only [rmv]; omega)) ?_
          first | with_reducible rfl | (first | (simp [oReason, h1, h2, h3, h4]; done) | exact absurd (thr_sm (M := M) (M1 := fcM M) (Sm_fc Sm.rf) x) (by simp [h1, h2, h3, h4]); done) | contradiction
      · refine r_out X (by first | decide | (simp only [rmv]; omega)) (by first | decide | (simp only [rmv]; omega)) ?_
        first | (simp [oReason, h1, h2, h3]; done) | exact absurd (thr_sm (M := M) (M1 := fcM M) (Sm_fc Sm.rf) x) (by simp [h1, h2, h3])
    · refine r_bipush X dX2_reason_9 (v := nI 99) (by decide) ?_
      refine r_cret X dX2_reason_11 (by first | with_reducible exact mis_c _ _ _ | rfl | assumption) (by first | decide | (simp only [rmv]; omega)) (by first | decide | (simp only [rmv]; omega)) ?_
      first | with_reducible rfl | (first | (simp [oReason, h1, h2]; done) | exact absurd (thr_sm (M := M) (M1 := fcM M) (Sm_fc Sm.rf) x) (by simp [h1, h2]); done) | contradiction
  · refine r_out X (by first | decide | (simp only [rmv]; omega)) (by first | decide | (simp only [rmv]; omega)) ?_
    first | (simp [oReason, h1]; done) | exact absurd (thr_sm (M := M) (M1 := fcM M) (Sm_fc Sm.rf) x) (by simp [h1])

set_option maxHeartbeats 4000000 in
set_option maxRecDepth 100000 in
theorem c_X2_used {l : Launch} {w : Wo} {M : Mem} {G : Lng} {x : Int32} (hnt : l.stackTraces = false) (hw : WK w) (hD : DI M) : CT l yX2_used [Cond.code yX2_used cX2_used 3 (some .int)] 24 4 24 w [.ref (w.1 (2, 0)), .int x] M G (if eth M x = true then okO (some (.int (svB (fcM M) 0 (ix x) 12))) (svB (fcM M)) G else thO xIOB M G) := by
  refine CT_of hnt hw.1 mw_X2_used (by simp [Value.category]) (Nat.le_of_ble_eq_true rfl) (fun p e s m args below meth c X => ?_)
  refine r_aload_n X dX2_used_0 (i := 0) rfl rfl ?_
  refine r_iload_n X dX2_used_1 (i := 1) rfl rfl ?_
  refine r_callV X (c_X2_entitlementAt hnt hw (by first | with_reducible assumption | with_reducible rfl | omega | (with_reducible (repeat (first | assumption | refine DI_chg ?_ | refine DI_fc ?_ | refine DI_fp ?_ | refine DI_cv ?_ | refine DI_sc ?_ | refine DI_sp ?_ | refine DI_tc ?_ | refine DI_tp ?_ | refine DI_svB ?_ | refine DI_give ?_ | refine DI_tk ?_ | refine DI_keep ?_ | refine DI_cls ?_ | refine DI_clS ?_ | refine DI_clr ?_ | refine DI_scr rfl ?_)); done))) mw_X2_entitlementAt kc2 mi_X2_entitlementAt (hw.2 _ _ (by first | decide | (simp [cnt] <;> omega))) ev2 ml_X2_114 rfl rfl (Nat.le_of_ble_eq_true rfl) (by first | decide | (simp only [rmv]; omega)) (by first | decide | (simp only [rmv]; omega)) (by first | decide | (simp only [rmv]; omega)) (by first | decide | (simp only [rmv]; omega)) dX2_used_2 (koi (fun h1 => ko1 ?_) (fun h1 => kox ?_))
  · have hx1 := (eth_Rg hD h1).1
    have hx2 := (eth_Rg hD h1).2
    refine r_astore_n X dX2_used_5 (i := 2) rfl (by decide) rfl ?_
    refine r_aload_n X dX2_used_6 (i := 0) rfl rfl ?_
    refine r_callV X (c_X2_findCover hnt hw (by first | with_reducible assumption | with_reducible rfl | omega | (with_reducible (repeat (first | assumption | refine DI_chg ?_ | refine DI_fc ?_ | refine DI_fp ?_ | refine DI_cv ?_ | refine DI_sc ?_ | refine DI_sp ?_ | refine DI_tc ?_ | refine DI_tp ?_ | refine DI_svB ?_ | refine DI_give ?_ | refine DI_tk ?_ | refine DI_keep ?_ | refine DI_cls ?_ | refine DI_clS ?_ | refine DI_clr ?_ | refine DI_scr rfl ?_)); done))) mw_X2_findCover kc2 mi_X2_findCover (hw.2 _ _ (by first | decide | (simp [cnt] <;> omega))) ev2 ml_X2_184 rfl rfl (Nat.le_of_ble_eq_true rfl) (by first | decide | (simp only [rmv]; omega)) (by first | decide | (simp only [rmv]; omega)) (by first | decide | (simp only [rmv]; omega)) (by first | decide | (simp only [rmv]; omega)) dX2_used_7 (ko1 ?_)
    refine r_pop X dX2_used_10 rfl ?_
    refine r_aload_n X dX2_used_11 (i := 0) rfl rfl ?_
    refine r_callV X (c_X2_serveByBest hnt hw (by first | with_reducible assumption | with_reducible rfl | omega | (with_reducible (repeat (first | assumption | refine DI_chg ?_ | refine DI_fc ?_ | refine DI_fp ?_ | refine DI_cv ?_ | refine DI_sc ?_ | refine DI_sp ?_ | refine DI_tc ?_ | refine DI_tp ?_ | refine DI_svB ?_ | refine DI_give ?_ | refine DI_tk ?_ | refine DI_keep ?_ | refine DI_cls ?_ | refine DI_clS ?_ | refine DI_clr ?_ | refine DI_scr rfl ?_)); done))) mw_X2_serveByBest kc2 mi_X2_serveByBest (hw.2 _ _ (by first | decide | (simp [cnt] <;> omega))) ev2 ml_X2_209 rfl rfl (Nat.le_of_ble_eq_true rfl) (by first | decide | (simp only [rmv]; omega)) (by first | decide | (simp only [rmv]; omega)) (by first | decide | (simp only [rmv]; omega)) (by first | decide | (simp only [rmv]; omega)) dX2_used_12 (ko0 ?_)
    refine r_aload_n X dX2_used_15 (i := 2) rfl rfl ?_
    refine r_getN X kc0 (j := 12) (hw.2 _ _ (by first | decide | (simp [cnt] <;> omega))) ev0 (by decide) rfl fl_X2_181 dX2_used_16 ?_
    refine r_iret X dX2_used_19 (by first | decide | (simp only [rmv]; omega)) (by first | decide | (simp only [rmv]; omega)) ?_
    first | with_reducible rfl | (simp [h1]; done) | contradiction | with_reducible assumption
  · refine r_out X (by first | decide | (simp only [rmv]; omega)) (by first | decide | (simp only [rmv]; omega)) ?_
    simp [h1]

set_option maxHeartbeats 4000000 in
set_option maxRecDepth 100000 in
theorem c_X2_spare {l : Launch} {w : Wo} {M : Mem} {G : Lng} {x : Int32} (hnt : l.stackTraces = false) (hw : WK w) (hD : DI M) : CT l yX2_spare [Cond.code yX2_spare cX2_spare 3 (some .int)] 25 16 96 w [.ref (w.1 (2, 0)), .int x] M G (oSpare M G x) := by
  refine CT_of hnt hw.1 mw_X2_spare (by simp [Value.category]) (Nat.le_of_ble_eq_true rfl) (fun p e s m args below meth c X => ?_)
  refine r_aload_n X dX2_spare_0 (i := 0) rfl rfl ?_
  refine r_iload_n X dX2_spare_1 (i := 1) rfl rfl ?_
  refine r_callV X (c_X2_used hnt hw (by first | with_reducible assumption | with_reducible rfl | omega | (with_reducible (repeat (first | assumption | refine DI_chg ?_ | refine DI_fc ?_ | refine DI_fp ?_ | refine DI_cv ?_ | refine DI_sc ?_ | refine DI_sp ?_ | refine DI_tc ?_ | refine DI_tp ?_ | refine DI_svB ?_ | refine DI_give ?_ | refine DI_tk ?_ | refine DI_keep ?_ | refine DI_cls ?_ | refine DI_clS ?_ | refine DI_clr ?_ | refine DI_scr rfl ?_)); done))) mw_X2_used kc2 mi_X2_used (hw.2 _ _ (by first | decide | (simp [cnt] <;> omega))) ev2 ml_X2_212 rfl rfl (Nat.le_of_ble_eq_true rfl) (by first | decide | (simp only [rmv]; omega)) (by first | decide | (simp only [rmv]; omega)) (by first | decide | (simp only [rmv]; omega)) (by first | decide | (simp only [rmv]; omega)) dX2_spare_2 (koi (fun h1 => ko1 ?_) (fun h1 => kox ?_))
  · have hx1 := (eth_Rg hD h1).1
    have hx2 := (eth_Rg hD h1).2
    refine r_istore_n X dX2_spare_5 (i := 2) rfl (by decide) rfl ?_
    refine r_aload_n X dX2_spare_6 (i := 0) rfl rfl ?_
    refine r_iload_n X dX2_spare_7 (i := 1) rfl rfl ?_
    refine r_callV X (c_X2_entitlementAt hnt hw (by first | with_reducible assumption | with_reducible rfl | omega | (with_reducible (repeat (first | assumption | refine DI_chg ?_ | refine DI_fc ?_ | refine DI_fp ?_ | refine DI_cv ?_ | refine DI_sc ?_ | refine DI_sp ?_ | refine DI_tc ?_ | refine DI_tp ?_ | refine DI_svB ?_ | refine DI_give ?_ | refine DI_tk ?_ | refine DI_keep ?_ | refine DI_cls ?_ | refine DI_clS ?_ | refine DI_clr ?_ | refine DI_scr rfl ?_)); done))) mw_X2_entitlementAt kc2 mi_X2_entitlementAt (hw.2 _ _ (by first | decide | (simp [cnt] <;> omega))) ev2 ml_X2_114 rfl rfl (Nat.le_of_ble_eq_true rfl) (by first | decide | (simp only [rmv]; omega)) (by first | decide | (simp only [rmv]; omega)) (by first | decide | (simp only [rmv]; omega)) (by first | decide | (simp only [rmv]; omega)) dX2_spare_8 (koi (fun h2 => ko1 ?_) (fun h2 => kox ?_))
    · have hy1 := (eth_Rg (DI_svB (DI_fc hD)) h2).1
      have hy2 := (eth_Rg (DI_svB (DI_fc hD)) h2).2
      refine r_getN X kc0 (j := 4) (hw.2 _ _ (by first | decide | (simp [cnt] <;> omega))) ev0 (by decide) rfl fl_X2_152 dX2_spare_11 ?_
      refine r_iload_n X dX2_spare_14 (i := 2) rfl rfl ?_
      refine r_isub X dX2_spare_15 ?_
      refine r_iret X dX2_spare_16 (by first | decide | (simp only [rmv]; omega)) (by first | decide | (simp only [rmv]; omega)) ?_
      first | with_reducible rfl | (first | (simp [oSpare, h1, h2]; done) | exact absurd (eth_sm (M := M) (M1 := svB (fcM M)) (Sm_svB (Sm_fc Sm.rf)) x) (by simp [h1, h2]); done) | contradiction | with_reducible assumption
    · refine r_out X (by first | decide | (simp only [rmv]; omega)) (by first | decide | (simp only [rmv]; omega)) ?_
      first | (simp [oSpare, h1, h2]; done) | exact absurd (eth_sm (M := M) (M1 := svB (fcM M)) (Sm_svB (Sm_fc Sm.rf)) x) (by simp [h1, h2])
  · refine r_out X (by first | decide | (simp only [rmv]; omega)) (by first | decide | (simp only [rmv]; omega)) ?_
    first | (simp [oSpare, h1]; done) | exact absurd (eth_sm (M := M) (M1 := svB (fcM M)) (Sm_svB (Sm_fc Sm.rf)) x) (by simp [h1])

set_option maxHeartbeats 4000000 in
set_option maxRecDepth 100000 in
theorem c_X2_purchase {l : Launch} {w : Wo} {M : Mem} {G : Lng}  (hnt : l.stackTraces = false) (hw : WK w) (hD : DI M) : CT l yX2_purchase [Cond.code yX2_purchase cX2_purchase 1 (some .int)] 24 4 24 w [.ref (w.1 (2, 0))] M G (oPurchase M G) := by
  refine CT_of hnt hw.1 mw_X2_purchase (by simp [Value.category]) (Nat.le_of_ble_eq_true rfl) (fun p e s m args below meth c X => ?_)
  refine r_aload_n X dX2_purchase_0 (i := 0) rfl rfl ?_
  refine r_callV X (c_X2_checkAllCanBeCovered hnt hw ) mw_X2_checkAllCanBeCovered kc2 mi_X2_checkAllCanBeCovered (hw.2 _ _ (by first | decide | (simp [cnt] <;> omega))) ev2 ml_X2_215 rfl rfl (Nat.le_of_ble_eq_true rfl) (by first | decide | (simp only [rmv]; omega)) (by first | decide | (simp only [rmv]; omega)) (by first | decide | (simp only [rmv]; omega)) (by first | decide | (simp only [rmv]; omega)) dX2_purchase_1 (koi (fun h1 => ko0 ?_) (fun h1 => kox ?_))
  · refine r_aload_n X dX2_purchase_4 (i := 0) rfl rfl ?_
    refine r_callV X (c_X2_findPurchase hnt hw (by first | with_reducible assumption | with_reducible rfl | omega | (with_reducible (repeat (first | assumption | refine DI_chg ?_ | refine DI_fc ?_ | refine DI_fp ?_ | refine DI_cv ?_ | refine DI_sc ?_ | refine DI_sp ?_ | refine DI_tc ?_ | refine DI_tp ?_ | refine DI_svB ?_ | refine DI_give ?_ | refine DI_tk ?_ | refine DI_keep ?_ | refine DI_cls ?_ | refine DI_clS ?_ | refine DI_clr ?_ | refine DI_scr rfl ?_)); done))) mw_X2_findPurchase kc2 mi_X2_findPurchase (hw.2 _ _ (by first | decide | (simp [cnt] <;> omega))) ev2 ml_X2_218 rfl rfl (Nat.le_of_ble_eq_true rfl) (by first | decide | (simp only [rmv]; omega)) (by first | decide | (simp only [rmv]; omega)) (by first | decide | (simp only [rmv]; omega)) (by first | decide | (simp only [rmv]; omega)) dX2_purchase_5 (ko1 ?_)
    refine r_iret X dX2_purchase_8 (by first | decide | (simp only [rmv]; omega)) (by first | decide | (simp only [rmv]; omega)) ?_
    first | with_reducible rfl | (simp [oPurchase, h1]; done) | contradiction | with_reducible assumption
  · refine r_out X (by first | decide | (simp only [rmv]; omega)) (by first | decide | (simp only [rmv]; omega)) ?_
    simp [oPurchase, h1]

set_option maxHeartbeats 4000000 in
set_option maxRecDepth 100000 in
theorem c_X2_purchaseByTrying {l : Launch} {w : Wo} {M : Mem} {G : Lng}  (hnt : l.stackTraces = false) (hw : WK w) (hD : DI M) : CT l yX2_purchaseByTrying [Cond.code yX2_purchaseByTrying cX2_purchaseByTrying 1 (some .int)] 24 4 24 w [.ref (w.1 (2, 0))] M G (oPT M G) := by
  refine CT_of hnt hw.1 mw_X2_purchaseByTrying (by simp [Value.category]) (Nat.le_of_ble_eq_true rfl) (fun p e s m args below meth c X => ?_)
  refine r_aload_n X dX2_purchaseByTrying_0 (i := 0) rfl rfl ?_
  refine r_get X kc2 (j := 3) (hw.2 _ _ (by first | decide | (simp [cnt] <;> omega))) ev2 (by decide) rfl fl_X2_55 dX2_purchaseByTrying_1 ?_
  refine r_iconst X dX2_purchaseByTrying_4 (v := nI 4) (by decide) ?_
  first | with_reducible refine r_icmpn_le X dX2_purchaseByTrying_5 (tgt := 18) (by decide) (by omega) (by omega) (fun h1 => ?_) (fun h1 => ?_) | refine r_icmp_le X dX2_purchaseByTrying_5 (tgt := 18) (by decide) (fun h1 => ?_) (fun h1 => ?_)
  · refine r_aload_n X dX2_purchaseByTrying_18 (i := 0) rfl rfl ?_
    refine r_callV X (c_X2_checkAllCanBeCovered hnt hw ) mw_X2_checkAllCanBeCovered kc2 mi_X2_checkAllCanBeCovered (hw.2 _ _ (by first | decide | (simp [cnt] <;> omega))) ev2 ml_X2_215 rfl rfl (Nat.le_of_ble_eq_true rfl) (by first | decide | (simp only [rmv]; omega)) (by first | decide | (simp only [rmv]; omega)) (by first | decide | (simp only [rmv]; omega)) (by first | decide | (simp only [rmv]; omega)) dX2_purchaseByTrying_19 (koi (fun h2 => ko0 ?_) (fun h2 => kox ?_))
    · refine r_aload_n X dX2_purchaseByTrying_22 (i := 0) rfl rfl ?_
      refine r_ldc X kc_221 rfl dX2_purchaseByTrying_23 ?_
      refine r_callV X (c_X2_clearSearch hnt hw ) mw_X2_clearSearch kc2 mi_X2_clearSearch (hw.2 _ _ (by first | decide | (simp [cnt] <;> omega))) ev2 ml_X2_189 rfl rfl (Nat.le_of_ble_eq_true rfl) (by first | decide | (simp only [rmv]; omega)) (by first | decide | (simp only [rmv]; omega)) (by first | decide | (simp only [rmv]; omega)) (by first | decide | (simp only [rmv]; omega)) dX2_purchaseByTrying_25 (ko0 ?_)
      refine r_aload_n X dX2_purchaseByTrying_28 (i := 0) rfl rfl ?_
      refine r_iconst X dX2_purchaseByTrying_29 (v := nI 0) (by decide) ?_
      refine r_callS X (c_X2_tryPurchases hnt hw 12 0 _ (by omega) (by first | with_reducible assumption | with_reducible rfl | omega | (with_reducible (repeat (first | assumption | refine DI_chg ?_ | refine DI_fc ?_ | refine DI_fp ?_ | refine DI_cv ?_ | refine DI_sc ?_ | refine DI_sp ?_ | refine DI_tc ?_ | refine DI_tp ?_ | refine DI_svB ?_ | refine DI_give ?_ | refine DI_tk ?_ | refine DI_keep ?_ | refine DI_cls ?_ | refine DI_clS ?_ | refine DI_clr ?_ | refine DI_scr rfl ?_)); done))) mw_X2_tryPurchases mi_X2_tryPurchases ml_X2_222 rfl rfl (Nat.le_of_ble_eq_true rfl) (by first | decide | (simp only [rmv]; omega)) (by first | decide | (simp only [rmv]; omega)) (by first | decide | (simp only [rmv]; omega)) (by first | decide | (simp only [rmv]; omega)) dX2_purchaseByTrying_30 (ko0 ?_)
      refine r_aload_n X dX2_purchaseByTrying_33 (i := 0) rfl rfl ?_
      refine r_get X kc2 (j := 9) (hw.2 _ _ (by first | decide | (simp [cnt] <;> omega))) ev2 (by decide) rfl fl_X2_197 dX2_purchaseByTrying_34 ?_
      refine r_iret X dX2_purchaseByTrying_37 (by first | decide | (simp only [rmv]; omega)) (by first | decide | (simp only [rmv]; omega)) ?_
      first | with_reducible rfl | (simp [oPT, tpM, h1, h2]; done) | contradiction | with_reducible assumption
    · refine r_out X (by first | decide | (simp only [rmv]; omega)) (by first | decide | (simp only [rmv]; omega)) ?_
      simp [oPT, tpM, h1, h2]
  · refine r_throwS X (cls := xUOE) (by decide +kernel) kl_137 ki_xUOE (sw_187) at_xUOE dX2_purchaseByTrying_8 dX2_purchaseByTrying_11 dX2_purchaseByTrying_12 dX2_purchaseByTrying_14 dX2_purchaseByTrying_17 (by first | decide | (simp only [rmv]; omega)) (by first | decide | (simp [Value.category, rmv] <;> omega)) (by first | decide | (simp only [rmv]; omega)) (by first | decide | (simp only [rmv]; omega)) (by first | decide | (simp only [rmv]; omega)) (by first | decide | (simp only [rmv]; omega)) ?_
    simp [oPT, tpM, h1]

set_option maxHeartbeats 4000000 in
set_option maxRecDepth 100000 in
theorem c_X2_toBuy {l : Launch} {w : Wo} {M : Mem} {G : Lng} {x : Int32} (hnt : l.stackTraces = false) (hw : WK w) (hD : DI M) : CT l yX2_toBuy [Cond.code yX2_toBuy cX2_toBuy 3 (some .int)] 24 4 24 w [.ref (w.1 (2, 0)), .int x] M G (oToBuy M G x) := by
  refine CT_of hnt hw.1 mw_X2_toBuy (by simp [Value.category]) (Nat.le_of_ble_eq_true rfl) (fun p e s m args below meth c X => ?_)
  refine r_aload_n X dX2_toBuy_0 (i := 0) rfl rfl ?_
  refine r_iload_n X dX2_toBuy_1 (i := 1) rfl rfl ?_
  refine r_callV X (c_X2_entitlementAt hnt hw (by first | with_reducible assumption | with_reducible rfl | omega | (with_reducible (repeat (first | assumption | refine DI_chg ?_ | refine DI_fc ?_ | refine DI_fp ?_ | refine DI_cv ?_ | refine DI_sc ?_ | refine DI_sp ?_ | refine DI_tc ?_ | refine DI_tp ?_ | refine DI_svB ?_ | refine DI_give ?_ | refine DI_tk ?_ | refine DI_keep ?_ | refine DI_cls ?_ | refine DI_clS ?_ | refine DI_clr ?_ | refine DI_scr rfl ?_)); done))) mw_X2_entitlementAt kc2 mi_X2_entitlementAt (hw.2 _ _ (by first | decide | (simp [cnt] <;> omega))) ev2 ml_X2_114 rfl rfl (Nat.le_of_ble_eq_true rfl) (by first | decide | (simp only [rmv]; omega)) (by first | decide | (simp only [rmv]; omega)) (by first | decide | (simp only [rmv]; omega)) (by first | decide | (simp only [rmv]; omega)) dX2_toBuy_2 (koi (fun h1 => ko1 ?_) (fun h1 => kox ?_))
  · have hy1 := (eth_Rg hD h1).1
    have hy2 := (eth_Rg hD h1).2
    refine r_astore_n X dX2_toBuy_5 (i := 2) rfl (by decide) rfl ?_
    refine r_aload_n X dX2_toBuy_6 (i := 0) rfl rfl ?_
    refine r_callV X (c_X2_checkAllCanBeCovered hnt hw ) mw_X2_checkAllCanBeCovered kc2 mi_X2_checkAllCanBeCovered (hw.2 _ _ (by first | decide | (simp [cnt] <;> omega))) ev2 ml_X2_215 rfl rfl (Nat.le_of_ble_eq_true rfl) (by first | decide | (simp only [rmv]; omega)) (by first | decide | (simp only [rmv]; omega)) (by first | decide | (simp only [rmv]; omega)) (by first | decide | (simp only [rmv]; omega)) dX2_toBuy_7 (koi (fun h2 => ko0 ?_) (fun h2 => kox ?_))
    · refine r_aload_n X dX2_toBuy_10 (i := 0) rfl rfl ?_
      refine r_callV X (c_X2_findPurchase hnt hw (by first | with_reducible assumption | with_reducible rfl | omega | (with_reducible (repeat (first | assumption | refine DI_chg ?_ | refine DI_fc ?_ | refine DI_fp ?_ | refine DI_cv ?_ | refine DI_sc ?_ | refine DI_sp ?_ | refine DI_tc ?_ | refine DI_tp ?_ | refine DI_svB ?_ | refine DI_give ?_ | refine DI_tk ?_ | refine DI_keep ?_ | refine DI_cls ?_ | refine DI_clS ?_ | refine DI_clr ?_ | refine DI_scr rfl ?_)); done))) mw_X2_findPurchase kc2 mi_X2_findPurchase (hw.2 _ _ (by first | decide | (simp [cnt] <;> omega))) ev2 ml_X2_218 rfl rfl (Nat.le_of_ble_eq_true rfl) (by first | decide | (simp only [rmv]; omega)) (by first | decide | (simp only [rmv]; omega)) (by first | decide | (simp only [rmv]; omega)) (by first | decide | (simp only [rmv]; omega)) dX2_toBuy_11 (ko1 ?_)
      refine r_pop X dX2_toBuy_14 rfl ?_
      refine r_aload_n X dX2_toBuy_15 (i := 0) rfl rfl ?_
      refine r_callV X (c_X2_serveByBest hnt hw (by first | with_reducible assumption | with_reducible rfl | omega | (with_reducible (repeat (first | assumption | refine DI_chg ?_ | refine DI_fc ?_ | refine DI_fp ?_ | refine DI_cv ?_ | refine DI_sc ?_ | refine DI_sp ?_ | refine DI_tc ?_ | refine DI_tp ?_ | refine DI_svB ?_ | refine DI_give ?_ | refine DI_tk ?_ | refine DI_keep ?_ | refine DI_cls ?_ | refine DI_clS ?_ | refine DI_clr ?_ | refine DI_scr rfl ?_)); done))) mw_X2_serveByBest kc2 mi_X2_serveByBest (hw.2 _ _ (by first | decide | (simp [cnt] <;> omega))) ev2 ml_X2_209 rfl rfl (Nat.le_of_ble_eq_true rfl) (by first | decide | (simp only [rmv]; omega)) (by first | decide | (simp only [rmv]; omega)) (by first | decide | (simp only [rmv]; omega)) (by first | decide | (simp only [rmv]; omega)) dX2_toBuy_16 (ko0 ?_)
      refine r_aload_n X dX2_toBuy_19 (i := 2) rfl rfl ?_
      refine r_callVN X (c_X0_missing hnt hw (by first | with_reducible assumption | with_reducible rfl | omega | (with_reducible (repeat (first | assumption | refine DI_chg ?_ | refine DI_fc ?_ | refine DI_fp ?_ | refine DI_cv ?_ | refine DI_sc ?_ | refine DI_sp ?_ | refine DI_tc ?_ | refine DI_tp ?_ | refine DI_svB ?_ | refine DI_give ?_ | refine DI_tk ?_ | refine DI_keep ?_ | refine DI_cls ?_ | refine DI_clS ?_ | refine DI_clr ?_ | refine DI_scr rfl ?_)); done))) mw_X0_missing kc0 mi_X0_missing (hw.2 _ _ (by first | decide | (simp [cnt] <;> omega))) ev0 ml_X2_225 rfl rfl (Nat.le_of_ble_eq_true rfl) (by first | decide | (simp only [rmv]; omega)) (by first | decide | (simp only [rmv]; omega)) (by first | decide | (simp only [rmv]; omega)) (by first | decide | (simp only [rmv]; omega)) dX2_toBuy_20 (ko1 ?_)
      refine r_iret X dX2_toBuy_23 (by first | decide | (simp only [rmv]; omega)) (by first | decide | (simp only [rmv]; omega)) ?_
      first | with_reducible rfl | (simp [oToBuy, h1, h2]; done) | contradiction | with_reducible assumption
    · refine r_out X (by first | decide | (simp only [rmv]; omega)) (by first | decide | (simp only [rmv]; omega)) ?_
      simp [oToBuy, h1, h2]
  · refine r_out X (by first | decide | (simp only [rmv]; omega)) (by first | decide | (simp only [rmv]; omega)) ?_
    simp [oToBuy, h1]

theorem Sm_tu0 {M M1 : Mem} {n : Nat} : Rg (M 2 0 2) 13 ∧ Rg (M 2 0 3) 7 ∧ Rg (M 2 0 4) 6 → True := fun _ => trivial
theorem DI_tu {M : Mem} (h : DI M) : ∀ n, DI (itn tuG n M)
  | 0 => h
  | n + 1 => by
    have ih := DI_tu h n
    show DI (ms (itn tuG n M) 0 n 4 (itn tuG n M 0 n 4 + mss (itn tuG n M) n))
    simpa [DI, ms] using ih
set_option maxHeartbeats 4000000 in
set_option maxRecDepth 100000 in
theorem lp_trueUp {p : Program} {l : Launch} {e : Env} {s : State} {m : MethodId} {args : Array Value} {below : List Frame} {meth : Method} {c : Code} {w : Wo} {M : Mem} {G : Lng} {v : Int32} (hnt : l.stackTraces = false) (hw : WK w) (X : Cx p l (rmv 24 4 24) s m args meth c cX2_trueUp 3 yX2_trueUp.cls (some .int) [] w)  : ∀ (n k : Nat) (M1 : Mem), k + n = 5 → M1 = itn tuG k (svB (fpM M)) → VE p l e (rmv 24 4 24) s m args below meth c (0 + 1 + 0 + 0) (0 + 6 + 0 + 0) (QV w (okO (some (.int v)) (tuM M) (gs G (2, 0) (G (2, 0) + v.toInt64))) below args s 4 24) 3 w 15 [some (.ref (w.1 (2, 0))), some (.int v), some (.int (nI k))] [] (ev w (M1) (G)) := by
  intro n
  induction n with
  | zero =>
    intro k M1 hk hM
    refine r_iload_n X dX2_trueUp_15 (i := 2) rfl rfl ?_
    refine r_iconst X dX2_trueUp_16 (v := nI 5) (by decide) ?_
    first | with_reducible refine r_icmpn_ge X dX2_trueUp_17 (tgt := 49) (by decide) (by omega) (by omega) (fun h1 => ?_) (fun h1 => ?_) | refine r_icmp_ge X dX2_trueUp_17 (tgt := 49) (by decide) (fun h1 => ?_) (fun h1 => ?_)
    · refine r_aload_n X dX2_trueUp_49 (i := 0) rfl rfl ?_
      refine r_dup X dX2_trueUp_50 rfl ?_
      refine r_get X kc2 (j := 5) (hw.2 _ _ (by first | decide | (simp [cnt] <;> omega))) ev2 (by decide) rfl fl_X2_228 dX2_trueUp_51 ?_
      refine r_iload_n X dX2_trueUp_54 (i := 1) rfl rfl ?_
      refine r_i2l X dX2_trueUp_55 ?_
      refine r_ladd X dX2_trueUp_56 ?_
      refine r_put X kc2 (j := 5) (hw.2 _ _ (by first | decide | (simp [cnt] <;> omega))) ev2 (by decide) (Nat.le_of_ble_eq_true rfl) fl_X2_228 rfl rfl rfl dX2_trueUp_57 es_2_5 ?_
      refine r_iload_n X dX2_trueUp_60 (i := 1) rfl rfl ?_
      refine r_iret X dX2_trueUp_61 (by first | decide | (simp only [rmv]; omega)) (by first | decide | (simp only [rmv]; omega)) ?_
      first | with_reducible rfl | (rw [hM, show k = 5 by omega]; rfl; done) | contradiction | with_reducible assumption
    · exact absurd h1 (by omega)
  | succ n ih =>
    intro k M1 hk hM
    refine r_iload_n X dX2_trueUp_15 (i := 2) rfl rfl ?_
    refine r_iconst X dX2_trueUp_16 (v := nI 5) (by decide) ?_
    first | with_reducible refine r_icmpn_ge X dX2_trueUp_17 (tgt := 49) (by decide) (by omega) (by omega) (fun h1 => ?_) (fun h1 => ?_) | refine r_icmp_ge X dX2_trueUp_17 (tgt := 49) (by decide) (fun h1 => ?_) (fun h1 => ?_)
    · exact absurd h1 (by omega)
    · refine r_aload_n X dX2_trueUp_20 (i := 0) rfl rfl ?_
      refine r_get X kc2 (j := 1) (hw.2 _ _ (by first | decide | (simp [cnt] <;> omega))) ev2 (by decide) rfl fl_X2_18 dX2_trueUp_21 ?_
      refine r_iload_n X dX2_trueUp_24 (i := 2) rfl rfl ?_
      first | refine r_aald X (t0 := 6) (hw.2 _ _ (by first | decide | (simp [cnt] <;> omega))) rfl ev4 (by first | with_reducible rfl | with_reducible assumption | (rw [pk_mul, nI_add])) (by first | with_reducible assumption | omega) (by decide) rfl dX2_trueUp_25 ?_ | refine r_aald X (t0 := 5) (hw.2 _ _ (by first | decide | (simp [cnt] <;> omega))) rfl ev5 (by first | with_reducible rfl | with_reducible assumption | (rw [pk_mul, nI_add])) (by first | with_reducible assumption | omega) (by decide) rfl dX2_trueUp_25 ?_
      refine r_dup X dX2_trueUp_26 rfl ?_
      refine r_getN X kc0 (j := 4) (hw.2 _ _ (by first | decide | (simp [cnt] <;> omega))) ev0 (by decide) rfl fl_X2_152 dX2_trueUp_27 ?_
      refine r_aload_n X dX2_trueUp_30 (i := 0) rfl rfl ?_
      refine r_get X kc2 (j := 1) (hw.2 _ _ (by first | decide | (simp [cnt] <;> omega))) ev2 (by decide) rfl fl_X2_18 dX2_trueUp_31 ?_
      refine r_iload_n X dX2_trueUp_34 (i := 2) rfl rfl ?_
      first | refine r_aald X (t0 := 6) (hw.2 _ _ (by first | decide | (simp [cnt] <;> omega))) rfl ev4 (by first | with_reducible rfl | with_reducible assumption | (rw [pk_mul, nI_add])) (by first | with_reducible assumption | omega) (by decide) rfl dX2_trueUp_35 ?_ | refine r_aald X (t0 := 5) (hw.2 _ _ (by first | decide | (simp [cnt] <;> omega))) rfl ev5 (by first | with_reducible rfl | with_reducible assumption | (rw [pk_mul, nI_add])) (by first | with_reducible assumption | omega) (by decide) rfl dX2_trueUp_35 ?_
      refine r_callVN X (c_X0_missing hnt hw (by first | with_reducible assumption | with_reducible rfl | omega | (with_reducible (repeat (first | assumption | refine DI_chg ?_ | refine DI_fc ?_ | refine DI_fp ?_ | refine DI_cv ?_ | refine DI_sc ?_ | refine DI_sp ?_ | refine DI_tc ?_ | refine DI_tp ?_ | refine DI_svB ?_ | refine DI_give ?_ | refine DI_tk ?_ | refine DI_keep ?_ | refine DI_cls ?_ | refine DI_clS ?_ | refine DI_clr ?_ | refine DI_scr rfl ?_)); done))) mw_X0_missing kc0 mi_X0_missing (hw.2 _ _ (by first | decide | (simp [cnt] <;> omega))) ev0 ml_X2_225 rfl rfl (Nat.le_of_ble_eq_true rfl) (by first | decide | (simp only [rmv]; omega)) (by first | decide | (simp only [rmv]; omega)) (by first | decide | (simp only [rmv]; omega)) (by first | decide | (simp only [rmv]; omega)) dX2_trueUp_36 (ko1 ?_)
      refine r_iadd X dX2_trueUp_39 ?_
      refine r_putN X kc0 (j := 4) (hw.2 _ _ (by first | decide | (simp [cnt] <;> omega))) ev0 (by decide) (Nat.le_of_ble_eq_true rfl) fl_X2_152 rfl rfl rfl dX2_trueUp_40 es_0_4 ?_
      first | with_reducible refine r_iincn X dX2_trueUp_43 rfl (by decide) rfl ?_ | refine r_iinc1 X dX2_trueUp_43 rfl (by decide) rfl ?_
      refine r_goto X dX2_trueUp_46 (tgt := 15) (by decide) ?_
      exact ih (k + 1) _ (by omega) (by rw [hM]; rfl)

set_option maxHeartbeats 4000000 in
set_option maxRecDepth 100000 in
theorem c_X2_trueUp {l : Launch} {w : Wo} {M : Mem} {G : Lng}  (hnt : l.stackTraces = false) (hw : WK w) (hD : DI M) : CT l yX2_trueUp [Cond.code yX2_trueUp cX2_trueUp 3 (some .int)] 24 4 24 w [.ref (w.1 (2, 0))] M G (oTrueUp M G) := by
  refine CT_of hnt hw.1 mw_X2_trueUp (by simp [Value.category]) (Nat.le_of_ble_eq_true rfl) (fun p e s m args below meth c X => ?_)
  refine r_aload_n X dX2_trueUp_0 (i := 0) rfl rfl ?_
  refine r_callV X (c_X2_checkAllCanBeCovered hnt hw ) mw_X2_checkAllCanBeCovered kc2 mi_X2_checkAllCanBeCovered (hw.2 _ _ (by first | decide | (simp [cnt] <;> omega))) ev2 ml_X2_215 rfl rfl (Nat.le_of_ble_eq_true rfl) (by first | decide | (simp only [rmv]; omega)) (by first | decide | (simp only [rmv]; omega)) (by first | decide | (simp only [rmv]; omega)) (by first | decide | (simp only [rmv]; omega)) dX2_trueUp_1 (koi (fun h1 => ko0 ?_) (fun h1 => kox ?_))
  · refine r_aload_n X dX2_trueUp_4 (i := 0) rfl rfl ?_
    refine r_callV X (c_X2_findPurchase hnt hw (by first | with_reducible assumption | with_reducible rfl | omega | (with_reducible (repeat (first | assumption | refine DI_chg ?_ | refine DI_fc ?_ | refine DI_fp ?_ | refine DI_cv ?_ | refine DI_sc ?_ | refine DI_sp ?_ | refine DI_tc ?_ | refine DI_tp ?_ | refine DI_svB ?_ | refine DI_give ?_ | refine DI_tk ?_ | refine DI_keep ?_ | refine DI_cls ?_ | refine DI_clS ?_ | refine DI_clr ?_ | refine DI_scr rfl ?_)); done))) mw_X2_findPurchase kc2 mi_X2_findPurchase (hw.2 _ _ (by first | decide | (simp [cnt] <;> omega))) ev2 ml_X2_218 rfl rfl (Nat.le_of_ble_eq_true rfl) (by first | decide | (simp only [rmv]; omega)) (by first | decide | (simp only [rmv]; omega)) (by first | decide | (simp only [rmv]; omega)) (by first | decide | (simp only [rmv]; omega)) dX2_trueUp_5 (ko1 ?_)
    refine r_istore_n X dX2_trueUp_8 (i := 1) rfl (by decide) rfl ?_
    refine r_aload_n X dX2_trueUp_9 (i := 0) rfl rfl ?_
    refine r_callV X (c_X2_serveByBest hnt hw (by first | with_reducible assumption | with_reducible rfl | omega | (with_reducible (repeat (first | assumption | refine DI_chg ?_ | refine DI_fc ?_ | refine DI_fp ?_ | refine DI_cv ?_ | refine DI_sc ?_ | refine DI_sp ?_ | refine DI_tc ?_ | refine DI_tp ?_ | refine DI_svB ?_ | refine DI_give ?_ | refine DI_tk ?_ | refine DI_keep ?_ | refine DI_cls ?_ | refine DI_clS ?_ | refine DI_clr ?_ | refine DI_scr rfl ?_)); done))) mw_X2_serveByBest kc2 mi_X2_serveByBest (hw.2 _ _ (by first | decide | (simp [cnt] <;> omega))) ev2 ml_X2_209 rfl rfl (Nat.le_of_ble_eq_true rfl) (by first | decide | (simp only [rmv]; omega)) (by first | decide | (simp only [rmv]; omega)) (by first | decide | (simp only [rmv]; omega)) (by first | decide | (simp only [rmv]; omega)) dX2_trueUp_10 (ko0 ?_)
    refine r_iconst X dX2_trueUp_13 (v := nI 0) (by decide) ?_
    refine r_istore_n X dX2_trueUp_14 (i := 2) rfl (by decide) rfl ?_
    have ho : oTrueUp M G = okO (some (.int (fpM M 2 0 9))) (tuM M) (gs G (2, 0) (G (2, 0) + (fpM M 2 0 9).toInt64)) := by simp [oTrueUp, h1]
    rw [ho]
    exact lp_trueUp hnt hw X 5 0 _ rfl (itn0 _ _).symm
  · refine r_out X (by first | decide | (simp only [rmv]; omega)) (by first | decide | (simp only [rmv]; omega)) ?_
    simp [oTrueUp, h1]

set_option maxHeartbeats 4000000 in
set_option maxRecDepth 100000 in
theorem c_X2_spent {l : Launch} {w : Wo} {M : Mem} {G : Lng}  (hnt : l.stackTraces = false) (hw : WK w)  : CT l yX2_spent [Cond.code yX2_spent cX2_spent 1 (some .long)] 1 0 0 w [.ref (w.1 (2, 0))] M G (okO (some (.long (G (2, 0)))) M G) := by
  refine CT_of hnt hw.1 mw_X2_spent (by simp [Value.category]) (Nat.le_of_ble_eq_true rfl) (fun p e s m args below meth c X => ?_)
  refine r_aload_n X dX2_spent_0 (i := 0) rfl rfl ?_
  refine r_get X kc2 (j := 5) (hw.2 _ _ (by first | decide | (simp [cnt] <;> omega))) ev2 (by decide) rfl fl_X2_228 dX2_spent_1 ?_
  refine r_lret X dX2_spent_4 (by first | decide | (simp only [rmv]; omega)) (by first | decide | (simp only [rmv]; omega)) ?_
  first | with_reducible rfl | (simp []; done) | contradiction | with_reducible assumption

end M6
