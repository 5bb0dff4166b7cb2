/-! THE QUESTIONS OF THE CLASS -/
section M6
def dv : Nat → Int32
  | 0 => -1
  | j + 1 => nI j
theorem dv_step (j : Nat) : nI j + Int32.ofInt (-1) = dv j := by
  cases j with
  | zero => decide
  | succ j => exact pk_m1 j
def cvG (t : Nat) (A : Mem) : Mem := ms A 8 0 (11 - t) (A 8 0 (11 - t + 1) + (if cf A (11 - t) 5 ≤ 0 then nI 0 else nI 1))
def fcM (M : Mem) : Mem := sc 12 0 (nI 0) (itn cvG 12 (ms (clS M (-1)) 8 0 12 (nI 0)))
theorem Sm_cv {M M1 : Mem} {n : Nat} (h : Sm M M1) : Sm M (itn cvG n M1) := Sm_itn (fun _ _ h => Sm_ms h rfl) h n
theorem Sm_fc {M M1 : Mem} (h : Sm M M1) : Sm M (fcM M1) := Sm_sc (Sm_cv (Sm_ms (Sm_clS h) rfl))
theorem DI_cv {M : Mem} {n : Nat} (h : DI M) : DI (itn cvG n M) := h.sm (Sm_cv Sm.rf)
theorem DI_fc {M : Mem} (h : DI M) : DI (fcM M) := h.sm (Sm_fc Sm.rf)
def fpM (M : Mem) : Mem := sp 12 0 (nI 0) (clS M 2147483647)
theorem Sm_fp {M M1 : Mem} (h : Sm M M1) : Sm M (fpM M1) := Sm_sp (Sm_clS h)
theorem DI_fp {M : Mem} (h : DI M) : DI (fpM M) := h.sm (Sm_fp Sm.rf)
def tcM (M : Mem) : Mem := tc 12 0 (clS M (-1))
def tpM (M : Mem) : Mem := tpu 12 0 (clS M 2147483647)
def ffO (M : Mem) (G : Lng) (i : Nat) : Nat → Nat → Oc
  | 0, _ => thO xNSE M G
  | n + 1, e => if fit M e i = true then okO (some (.int (nI e))) M G else ffO M G i n (e + 1)
def tuG (e : Nat) (A : Mem) : Mem := ms A 0 e 4 (A 0 e 4 + mss A e)
def tuM (M : Mem) : Mem := itn tuG 5 (svB (fpM M))
def oFitting (M : Mem) (G : Lng) (x : Int32) : Oc := if thr M x = true then okO (some (.int (cf M (ix x) 5))) M G else thO xIOB M G
def oFirst (M : Mem) (G : Lng) (x : Int32) : Oc := if thr M x = true then ffO M G (ix x) 5 0 else thO xIOB M G
def oUFA (M : Mem) (G : Lng) (x : Int32) : Oc := if eth M x = true then okO (some (.int (ufa M (ix x) 0 (ix x) 12))) (ufa M (ix x)) G else thO xIOB M G
def oCT (M : Mem) (G : Lng) : Oc := if M 2 0 3 ≤ nI 4 then okO (some (.int (tcM M 2 0 9))) (tcM M) G else thO xUOE M G
def oEBC (M : Mem) (G : Lng) (x : Int32) : Oc := if thr M x = true then okO (some (.int (fcM M 7 0 (ix x)))) (fcM M) G else thO xIOB M G
def oEOf (M : Mem) (G : Lng) (x : Int32) : Oc := if thr M x = true then (if fcM M 7 0 (ix x) = -1 then thO xNSE (fcM M) G else okO (some (.int (fcM M 7 0 (ix x)))) (fcM M) G) else thO xIOB M G
def oReason (M : Mem) (G : Lng) (x : Int32) : Oc := if thr M x = true then (if fcM M 7 0 (ix x) = -1 then (if cf (fcM M) (ix x) 5 = 0 then okO (some (.int (nI 110))) (fcM M) G else okO (some (.int (nI 117))) (fcM M) G) else okO (some (.int (nI 99))) (fcM M) G) else thO xIOB M G
def oUsed (M : Mem) (G : Lng) (x : Int32) : Oc := if eth M x = true then okO (some (.int (svB (fcM M) 0 (ix x) 12))) (svB (fcM M)) G else thO xIOB M G
def oSpare (M : Mem) (G : Lng) (x : Int32) : Oc := if eth M x = true then okO (some (.int (svB (fcM M) 0 (ix x) 4 - svB (fcM M) 0 (ix x) 12))) (svB (fcM M)) G else thO xIOB M G
def oPurchase (M : Mem) (G : Lng) : Oc := if ckF M 12 0 = true then okO (some (.int (fpM M 2 0 9))) (fpM M) G else thO xNSE M G
def oPT (M : Mem) (G : Lng) : Oc := if M 2 0 3 ≤ nI 4 then (if ckF M 12 0 = true then okO (some (.int (tpM M 2 0 9))) (tpM M) G else thO xNSE M G) else thO xUOE M G
def oToBuy (M : Mem) (G : Lng) (x : Int32) : Oc := if eth M x = true then (if ckF M 12 0 = true then okO (some (.int (mss (svB (fpM M)) (ix x)))) (svB (fpM M)) G else thO xNSE M G) else thO xIOB M G
def oTrueUp (M : Mem) (G : Lng) : Oc := if ckF M 12 0 = true then okO (some (.int (fpM M 2 0 9))) (tuM M) (gs G (2, 0) (G (2, 0) + (fpM M 2 0 9).toInt64)) else thO xNSE M G
set_option maxHeartbeats 4000000 in
set_option maxRecDepth 100000 in
theorem lp_findCover {p : Program} {l : Launch} {e : Env} {s : State} {m : MethodId} {args : Array Value} {below : List Frame} {meth : Method} {c : Code} {w : Wo} {M : Mem} {G : Lng} (hnt : l.stackTraces = false) (hw : WK w) (X : Cx p l (rmv 23 0 0) s m args meth c cX2_findCover 2 yX2_findCover.cls (some .int) [] w)  : ∀ (j t : Nat) (M1 : Mem), j + t = 12 → M1 = itn cvG t (ms (clS M (-1)) 8 0 12 (nI 0)) → DI M1 → VE p l e (rmv 23 0 0) s m args below meth c (0) (0) (QV w (okO (some (.int (fcM M 2 0 9))) (fcM M) G) below args s 0 0) 2 w 16 [some (.ref (w.1 (2, 0))), some (.int (dv j))] [] (ev w (M1) (G)) := by
  sorry
set_option maxHeartbeats 4000000 in
set_option maxRecDepth 100000 in
theorem c_X2_findCover {l : Launch} {w : Wo} {M : Mem} {G : Lng}  (hnt : l.stackTraces = false) (hw : WK w) (hD : DI M) : CT l yX2_findCover [Cond.code yX2_findCover cX2_findCover 2 (some .int)] 23 0 0 w [.ref (w.1 (2, 0))] M G (okO (some (.int (fcM M 2 0 9))) (fcM M) G) := by
  sorry
set_option maxHeartbeats 4000000 in
set_option maxRecDepth 100000 in
theorem c_X2_findPurchase {l : Launch} {w : Wo} {M : Mem} {G : Lng}  (hnt : l.stackTraces = false) (hw : WK w) (hD : DI M) : CT l yX2_findPurchase [Cond.code yX2_findPurchase cX2_findPurchase 1 (some .int)] 23 0 0 w [.ref (w.1 (2, 0))] M G (okO (some (.int (fpM M 2 0 9))) (fpM M) G) := by
  sorry
set_option maxHeartbeats 4000000 in
set_option maxRecDepth 100000 in
theorem c_X2_fitting {l : Launch} {w : Wo} {M : Mem} {G : Lng} {x : Int32} (hnt : l.stackTraces = false) (hw : WK w)  : CT l yX2_fitting [Cond.code yX2_fitting cX2_fitting 2 (some .int)] 7 4 24 w [.ref (w.1 (2, 0)), .int x] M G (oFitting M G x) := by
  sorry
set_option maxHeartbeats 4000000 in
set_option maxRecDepth 100000 in
theorem lp_firstFitting {p : Program} {l : Launch} {e : Env} {s : State} {m : MethodId} {args : Array Value} {below : List Frame} {meth : Method} {c : Code} {w : Wo} {M : Mem} {G : Lng} {i : Nat} {x : Int32} (hnt : l.stackTraces = false) (hw : WK w) (X : Cx p l (rmv 7 4 24) s m args meth c cX2_firstFitting 4 yX2_firstFitting.cls (some .int) [] w) (hi : i < 12) : ∀ (n k : Nat), k + n = 5 → ∀ oo : Oc, oo = ffO M G i n k → VE p l e (rmv 7 4 24) s m args below meth c (0 + 1) (0 + 6) (QV w (oo) below args s 4 24) 4 w 8 [some (.ref (w.1 (2, 0))), some (.int x), some (.ref (w.1 (1, i))), some (.int (nI k))] [] (ev w (M) (G)) := by
  sorry
set_option maxHeartbeats 4000000 in
set_option maxRecDepth 100000 in
theorem c_X2_firstFitting {l : Launch} {w : Wo} {M : Mem} {G : Lng} {x : Int32} (hnt : l.stackTraces = false) (hw : WK w)  : CT l yX2_firstFitting [Cond.code yX2_firstFitting cX2_firstFitting 4 (some .int)] 7 4 24 w [.ref (w.1 (2, 0)), .int x] M G (oFirst M G x) := by
  sorry
set_option maxHeartbeats 4000000 in
set_option maxRecDepth 100000 in
theorem lp_ufa {p : Program} {l : Launch} {e : Env} {s : State} {m : MethodId} {args : Array Value} {below : List Frame} {meth : Method} {c : Code} {w : Wo} {M : Mem} {G : Lng} {i : Nat} {x : Int32} (hnt : l.stackTraces = false) (hw : WK w) (X : Cx p l (rmv 7 4 24) s m args meth c cX2_unitsForAll 4 yX2_unitsForAll.cls (some .int) [] w) (hi : i < 5) : ∀ (n k : Nat) (M1 : Mem), k + n = 12 → M1 = itn (ufG i) k (clr M i) → DI M1 → VE p l e (rmv 7 4 24) s m args below meth c (0 + 1) (0 + 6) (QV w (okO (some (.int (ufa M i 0 i 12))) (ufa M i) G) below args s 4 24) 4 w 12 [some (.ref (w.1 (2, 0))), some (.int x), some (.ref (w.1 (0, i))), some (.int (nI k))] [] (ev w (M1) (G)) := by
  sorry
set_option maxHeartbeats 4000000 in
set_option maxRecDepth 100000 in
theorem c_X2_unitsForAll {l : Launch} {w : Wo} {M : Mem} {G : Lng} {x : Int32} (hnt : l.stackTraces = false) (hw : WK w) (hD : DI M) : CT l yX2_unitsForAll [Cond.code yX2_unitsForAll cX2_unitsForAll 4 (some .int)] 7 4 24 w [.ref (w.1 (2, 0)), .int x] M G (oUFA M G x) := by
  sorry
set_option maxHeartbeats 4000000 in
set_option maxRecDepth 100000 in
theorem c_X2_covered {l : Launch} {w : Wo} {M : Mem} {G : Lng}  (hnt : l.stackTraces = false) (hw : WK w) (hD : DI M) : CT l yX2_covered [Cond.code yX2_covered cX2_covered 1 (some .int)] 24 0 0 w [.ref (w.1 (2, 0))] M G (okO (some (.int (fcM M 2 0 9))) (fcM M) G) := by
  sorry
set_option maxHeartbeats 4000000 in
set_option maxRecDepth 100000 in
theorem c_X2_coveredByTrying {l : Launch} {w : Wo} {M : Mem} {G : Lng}  (hnt : l.stackTraces = false) (hw : WK w) (hD : DI M) : CT l yX2_coveredByTrying [Cond.code yX2_coveredByTrying cX2_coveredByTrying 1 (some .int)] 24 4 24 w [.ref (w.1 (2, 0))] M G (oCT M G) := by
  sorry
theorem fit_sm {M M1 : Mem} (h : Sm M M1) (e i : Nat) : fit M1 e i = fit M e i := by
  unfold fit mis
  rw [h 1 i 0 rfl, h 0 e 0 rfl, h 1 i 1 rfl, h 0 e 5 rfl, h 1 i 7 rfl, h 0 e 2 rfl, h 1 i 3 rfl, h 0 e 8 rfl, h 0 e 1 rfl, h 1 i 2 rfl, h 0 e 9 rfl]
theorem cf_sm {M M1 : Mem} (h : Sm M M1) (i : Nat) : ∀ k, cf M1 i k = cf M i k
  | 0 => rfl
  | k + 1 => by unfold cf; rw [fit_sm h, cf_sm h i k]
theorem thr_sm {M M1 : Mem} (h : Sm M M1) (x : Int32) : thr M1 x = thr M x := by unfold thr; rw [h 1 (ix x) 0 rfl]
theorem eth_sm {M M1 : Mem} (h : Sm M M1) (x : Int32) : eth M1 x = eth M x := by unfold eth; rw [h 2 0 4 rfl]
set_option maxHeartbeats 4000000 in
set_option maxRecDepth 100000 in
theorem c_X2_entitlementByCover {l : Launch} {w : Wo} {M : Mem} {G : Lng} {x : Int32} (hnt : l.stackTraces = false) (hw : WK w) (hD : DI M) : CT l yX2_entitlementByCover [Cond.code yX2_entitlementByCover cX2_entitlementByCover 2 (some .int)] 24 4 24 w [.ref (w.1 (2, 0)), .int x] M G (if thr M x = true then okO (some (.int (fcM M 7 0 (ix x)))) (fcM M) G else thO xIOB M G) := by
  sorry
set_option maxHeartbeats 4000000 in
set_option maxRecDepth 100000 in
theorem c_X2_entitlementOf {l : Launch} {w : Wo} {M : Mem} {G : Lng} {x : Int32} (hnt : l.stackTraces = false) (hw : WK w) (hD : DI M) : CT l yX2_entitlementOf [Cond.code yX2_entitlementOf cX2_entitlementOf 3 (some .int)] 25 8 48 w [.ref (w.1 (2, 0)), .int x] M G (oEOf M G x) := by
  sorry
theorem fit_ite (M : Mem) (G : Lng) (x : Int32) : oFitting M G x = if thr M x = true then okO (some (.int (cf M (ix x) 5))) M G else thO xIOB M G := rfl
set_option maxHeartbeats 4000000 in
set_option maxRecDepth 100000 in
theorem c_X2_reason {l : Launch} {w : Wo} {M : Mem} {G : Lng} {x : Int32} (hnt : l.stackTraces = false) (hw : WK w) (hD : DI M) : CT l yX2_reason [Cond.code yX2_reason cX2_reason 2 (some .char)] 25 16 96 w [.ref (w.1 (2, 0)), .int x] M G (oReason M G x) := by
  sorry
set_option maxHeartbeats 4000000 in
set_option maxRecDepth 100000 in
theorem c_X2_used {l : Launch} {w : Wo} {M : Mem} {G : Lng} {x : Int32} (hnt : l.stackTraces = false) (hw : WK w) (hD : DI M) : CT l yX2_used [Cond.code yX2_used cX2_used 3 (some .int)] 24 4 24 w [.ref (w.1 (2, 0)), .int x] M G (if eth M x = true then okO (some (.int (svB (fcM M) 0 (ix x) 12))) (svB (fcM M)) G else thO xIOB M G) := by
  sorry
set_option maxHeartbeats 4000000 in
set_option maxRecDepth 100000 in
theorem c_X2_spare {l : Launch} {w : Wo} {M : Mem} {G : Lng} {x : Int32} (hnt : l.stackTraces = false) (hw : WK w) (hD : DI M) : CT l yX2_spare [Cond.code yX2_spare cX2_spare 3 (some .int)] 25 16 96 w [.ref (w.1 (2, 0)), .int x] M G (oSpare M G x) := by
  sorry
set_option maxHeartbeats 4000000 in
set_option maxRecDepth 100000 in
theorem c_X2_purchase {l : Launch} {w : Wo} {M : Mem} {G : Lng}  (hnt : l.stackTraces = false) (hw : WK w) (hD : DI M) : CT l yX2_purchase [Cond.code yX2_purchase cX2_purchase 1 (some .int)] 24 4 24 w [.ref (w.1 (2, 0))] M G (oPurchase M G) := by
  sorry
set_option maxHeartbeats 4000000 in
set_option maxRecDepth 100000 in
theorem c_X2_purchaseByTrying {l : Launch} {w : Wo} {M : Mem} {G : Lng}  (hnt : l.stackTraces = false) (hw : WK w) (hD : DI M) : CT l yX2_purchaseByTrying [Cond.code yX2_purchaseByTrying cX2_purchaseByTrying 1 (some .int)] 24 4 24 w [.ref (w.1 (2, 0))] M G (oPT M G) := by
  sorry
set_option maxHeartbeats 4000000 in
set_option maxRecDepth 100000 in
theorem c_X2_toBuy {l : Launch} {w : Wo} {M : Mem} {G : Lng} {x : Int32} (hnt : l.stackTraces = false) (hw : WK w) (hD : DI M) : CT l yX2_toBuy [Cond.code yX2_toBuy cX2_toBuy 3 (some .int)] 24 4 24 w [.ref (w.1 (2, 0)), .int x] M G (oToBuy M G x) := by
  sorry
theorem Sm_tu0 {M M1 : Mem} {n : Nat} : Rg (M 2 0 2) 13 ∧ Rg (M 2 0 3) 7 ∧ Rg (M 2 0 4) 6 → True := fun _ => trivial
theorem DI_tu {M : Mem} (h : DI M) : ∀ n, DI (itn tuG n M)
  | 0 => h
  | n + 1 => by
    have ih := DI_tu h n
    show DI (ms (itn tuG n M) 0 n 4 (itn tuG n M 0 n 4 + mss (itn tuG n M) n))
    simpa [DI, ms] using ih
set_option maxHeartbeats 4000000 in
set_option maxRecDepth 100000 in
theorem lp_trueUp {p : Program} {l : Launch} {e : Env} {s : State} {m : MethodId} {args : Array Value} {below : List Frame} {meth : Method} {c : Code} {w : Wo} {M : Mem} {G : Lng} {v : Int32} (hnt : l.stackTraces = false) (hw : WK w) (X : Cx p l (rmv 24 4 24) s m args meth c cX2_trueUp 3 yX2_trueUp.cls (some .int) [] w)  : ∀ (n k : Nat) (M1 : Mem), k + n = 5 → M1 = itn tuG k (svB (fpM M)) → VE p l e (rmv 24 4 24) s m args below meth c (0 + 1 + 0 + 0) (0 + 6 + 0 + 0) (QV w (okO (some (.int v)) (tuM M) (gs G (2, 0) (G (2, 0) + v.toInt64))) below args s 4 24) 3 w 15 [some (.ref (w.1 (2, 0))), some (.int v), some (.int (nI k))] [] (ev w (M1) (G)) := by
  sorry
set_option maxHeartbeats 4000000 in
set_option maxRecDepth 100000 in
theorem c_X2_trueUp {l : Launch} {w : Wo} {M : Mem} {G : Lng}  (hnt : l.stackTraces = false) (hw : WK w) (hD : DI M) : CT l yX2_trueUp [Cond.code yX2_trueUp cX2_trueUp 3 (some .int)] 24 4 24 w [.ref (w.1 (2, 0))] M G (oTrueUp M G) := by
  sorry
set_option maxHeartbeats 4000000 in
set_option maxRecDepth 100000 in
theorem c_X2_spent {l : Launch} {w : Wo} {M : Mem} {G : Lng}  (hnt : l.stackTraces = false) (hw : WK w)  : CT l yX2_spent [Cond.code yX2_spent cX2_spent 1 (some .long)] 1 0 0 w [.ref (w.1 (2, 0))] M G (okO (some (.long (G (2, 0)))) M G) := by
  sorry
end M6
