/-! THE SEARCH'S HELPERS -/
section M4
/-- how many of the first k entitlements fit -/
def cf (M : Mem) (i : Nat) : Nat → Int32
  | 0 => nI 0
  | k + 1 => if fit M k i = true then cf M i k + nI 1 else cf M i k
def clsG (e : Nat) (A : Mem) : Mem := clr A e
def cls (M : Mem) : Mem := itn clsG 5 M
def clSG (i : Nat) (A : Mem) : Mem := ms (ms A 6 0 i (-1)) 7 0 i (-1)
def clS (M : Mem) (v : Int32) : Mem := ms (cls (itn clSG 12 M)) 2 0 9 v
def giveM (M : Mem) (i e : Nat) : Mem := chg (ms M 6 0 i (nI e)) e i (nI 1)
def tkM (M : Mem) (i e : Nat) : Mem := chg (ms M 6 0 i (-1)) e i (-1)
def cpM (M : Mem) : Mem := fun c i k => if c = 7 ∧ i = 0 ∧ k < 12 then M 6 0 k else M c i k
def keepM (M : Mem) (v : Int32) : Mem := cpM (ms M 2 0 9 v)
theorem Sm_cls {M M1 : Mem} (h : Sm M M1) : Sm M (cls M1) := Sm_itn (fun _ _ h => Sm_clr h) h 5
theorem Sm_clS {M M1 : Mem} {v : Int32} (h : Sm M M1) : Sm M (clS M1 v) := Sm_ms (Sm_cls (Sm_itn (fun _ _ h => Sm_ms (Sm_ms h rfl) rfl) h 12)) rfl
theorem Sm_give {M M1 : Mem} {i e : Nat} (h : Sm M M1) : Sm M (giveM M1 i e) := Sm_chg (Sm_ms h rfl)
theorem Sm_tk {M M1 : Mem} {i e : Nat} (h : Sm M M1) : Sm M (tkM M1 i e) := Sm_chg (Sm_ms h rfl)
theorem Sm_cp {M M1 : Mem} (h : Sm M M1) : Sm M (cpM M1) := fun c i k hs => by
  rw [cpM, if_neg]
  · exact h c i k hs
  · rintro ⟨rfl, -⟩
    simp [scr] at hs
theorem Sm_keep {M M1 : Mem} {v : Int32} (h : Sm M M1) : Sm M (keepM M1 v) := Sm_cp (Sm_ms h rfl)
theorem DI_cls {M : Mem} (h : DI M) : DI (cls M) := h.sm (Sm_cls Sm.rf)
theorem DI_clS {M : Mem} {v : Int32} (h : DI M) : DI (clS M v) := h.sm (Sm_clS Sm.rf)
theorem DI_give {M : Mem} {i e : Nat} (h : DI M) : DI (giveM M i e) := h.sm (Sm_give Sm.rf)
theorem DI_tk {M : Mem} {i e : Nat} (h : DI M) : DI (tkM M i e) := h.sm (Sm_tk Sm.rf)
theorem DI_keep {M : Mem} {v : Int32} (h : DI M) : DI (keepM M v) := h.sm (Sm_keep Sm.rf)
def svG (i : Nat) (A : Mem) : Mem := if btw (A 7 0 i) (nI 0) (nI 4) = true then chg A (ix (A 7 0 i)) i (nI 1) else A
def svB (M : Mem) : Mem := itn svG 12 (cls M)
theorem Sm_svB {M M1 : Mem} (h : Sm M M1) : Sm M (svB M1) := Sm_itn (fun k A h => by unfold svG; split; exact Sm_chg h; exact h) (Sm_cls h) 12
theorem DI_svB {M : Mem} (h : DI M) : DI (svB M) := h.sm (Sm_svB Sm.rf)
def cgv (M : Mem) : Nat → Int32
  | 0 => nI 0
  | k + 1 => if M 6 0 k = -1 then cgv M k else cgv M k + nI 1
def alF (M : Mem) : Nat → Nat → Bool
  | 0, _ => true
  | n + 1, e => decide (mss M e ≤ 0) && alF M n (e + 1)
def smM (M : Mem) : Nat → Int32
  | 0 => nI 0
  | k + 1 => smM M k + M 0 k 7 * mss M k
def ckF (M : Mem) : Nat → Nat → Bool
  | 0, _ => true
  | n + 1, i => (decide (M 1 i 0 = 0) || !decide (cf M i 5 = 0)) && ckF M n (i + 1)
def ufG (e i : Nat) (A : Mem) : Mem := if fit A e i = true then chg A e i (nI 1) else A
def ufa (M : Mem) (e : Nat) : Mem := itn (ufG e) 12 (clr M e)
theorem esCp {w : Wo} {M : Mem} {G : Lng} : eset (ev w M G) (7, 0) (.inl (w.2.2.2 0, (12, .inl (va_cpy (M 6 0) (M 7 0) (nI 0).toNatClampNeg (nI 0).toNatClampNeg (nI 12).toNatClampNeg)))) = ev w (cpM M) G := by
  refine es_of ?_ (fun c n hk => ⟨fun k => ?_, rfl⟩)
  · rw [evA (by decide) (by decide)]
    have h : va_cpy (M 6 0) (M 7 0) (nI 0).toNatClampNeg (nI 0).toNatClampNeg (nI 12).toNatClampNeg = cpM M 7 0 := by
      funext k
      rw [nI_clamp (by decide), nI_clamp (by decide)]
      simp only [va_cpy, cpM]
      by_cases hk : k < 12
      · simp [hk]
      · simp [hk]
    rw [h]
    rfl
  · rw [cpM, if_neg]
    rintro ⟨rfl, rfl, -⟩
    exact hk rfl
theorem wcopy : Cond.methodLink RX2 282 arraycopyName ∈ lw_tbl := tb (List.mem_of_getElem? (i := 206) (by decide +kernel))
set_option maxHeartbeats 4000000 in
set_option maxRecDepth 100000 in
theorem lp_countFitting {p : Program} {l : Launch} {e : Env} {s : State} {m : MethodId} {args : Array Value} {below : List Frame} {meth : Method} {c : Code} {w : Wo} {M : Mem} {G : Lng} {i : Nat} (hnt : l.stackTraces = false) (hw : WK w) (X : Cx p l (rmv 3 0 0) s m args meth c cX2_countFitting 4 yX2_countFitting.cls (some .int) [] w) (hi : i < 12) : ∀ (n k : Nat), k + n = 5 → VE p l e (rmv 3 0 0) s m args below meth c (0) (0) (QV w (okO (some (.int (cf M i 5))) (M) G) below args s 0 0) 4 w 4 [some (.ref (w.1 (2, 0))), some (.ref (w.1 (1, i))), some (.int (cf M i k)), some (.int (nI k))] [] (ev w (M) (G)) := by
  intro n
  induction n with
  | zero =>
    intro k hk
    refine r_iload_n X dX2_countFitting_4 (i := 3) rfl rfl ?_
    refine r_iconst X dX2_countFitting_5 (v := nI 5) (by decide) ?_
    first | with_reducible refine r_icmpn_ge X dX2_countFitting_6 (tgt := 31) (by decide) (by omega) (by omega) (fun h1 => ?_) (fun h1 => ?_) | refine r_icmp_ge X dX2_countFitting_6 (tgt := 31) (by decide) (fun h1 => ?_) (fun h1 => ?_)
    · refine r_iload_n X dX2_countFitting_31 (i := 2) rfl rfl ?_
      refine r_iret X dX2_countFitting_32 (by first | decide | (simp only [rmv]; omega)) (by first | decide | (simp only [rmv]; omega)) ?_
      first | with_reducible rfl | (rw [show k = 5 by omega]; done) | contradiction | with_reducible assumption
    · exact absurd h1 (by omega)
  | succ n ih =>
    intro k hk
    refine r_iload_n X dX2_countFitting_4 (i := 3) rfl rfl ?_
    refine r_iconst X dX2_countFitting_5 (v := nI 5) (by decide) ?_
    first | with_reducible refine r_icmpn_ge X dX2_countFitting_6 (tgt := 31) (by decide) (by omega) (by omega) (fun h1 => ?_) (fun h1 => ?_) | refine r_icmp_ge X dX2_countFitting_6 (tgt := 31) (by decide) (fun h1 => ?_) (fun h1 => ?_)
    · exact absurd h1 (by omega)
    · refine r_aload_n X dX2_countFitting_9 (i := 0) rfl rfl ?_
      refine r_get X kc2 (j := 1) (hw.2 _ _ (by first | decide | (simp [cnt] <;> omega))) ev2 (by decide) rfl fl_X2_18 dX2_countFitting_10 ?_
      refine r_iload_n X dX2_countFitting_13 (i := 3) rfl rfl ?_
      first | refine r_aald X (t0 := 6) (hw.2 _ _ (by first | decide | (simp [cnt] <;> omega))) rfl ev4 (by first | with_reducible rfl | with_reducible assumption | (rw [pk_mul, nI_add])) (by first | with_reducible assumption | omega) (by decide) rfl dX2_countFitting_14 ?_ | refine r_aald X (t0 := 5) (hw.2 _ _ (by first | decide | (simp [cnt] <;> omega))) rfl ev5 (by first | with_reducible rfl | with_reducible assumption | (rw [pk_mul, nI_add])) (by first | with_reducible assumption | omega) (by decide) rfl dX2_countFitting_14 ?_
      refine r_aload_n X dX2_countFitting_15 (i := 1) rfl rfl ?_
      refine r_callVN X (c_X0_fits hnt hw (by first | with_reducible assumption | with_reducible rfl | omega | (with_reducible (repeat (first | assumption | refine DI_chg ?_ | refine DI_give ?_ | refine DI_tk ?_ | refine DI_keep ?_ | refine DI_cls ?_ | refine DI_clS ?_ | refine DI_clr ?_ | refine DI_scr rfl ?_)); done)) (by first | with_reducible assumption | with_reducible rfl | omega | (with_reducible (repeat (first | assumption | refine DI_chg ?_ | refine DI_give ?_ | refine DI_tk ?_ | refine DI_keep ?_ | refine DI_cls ?_ | refine DI_clS ?_ | refine DI_clr ?_ | refine DI_scr rfl ?_)); done))) mw_X0_fits kc0 mi_X0_fits (hw.2 _ _ (by first | decide | (simp [cnt] <;> omega))) ev0 ml_X2_165 rfl rfl (Nat.le_of_ble_eq_true rfl) (by first | decide | (simp only [rmv]; omega)) (by first | decide | (simp only [rmv]; omega)) (by first | decide | (simp only [rmv]; omega)) (by first | decide | (simp only [rmv]; omega)) dX2_countFitting_16 (ko1 ?_)
      first | with_reducible refine r_ifb_eq X dX2_countFitting_19 (tgt := 25) (by decide) (fun h2 => ?_) (fun h2 => ?_) | refine r_if_eq X dX2_countFitting_19 (tgt := 25) (by decide) (fun h2 => ?_) (fun h2 => ?_)
      · first | with_reducible refine r_iincn X dX2_countFitting_25 rfl (by decide) rfl ?_ | refine r_iinc1 X dX2_countFitting_25 rfl (by decide) rfl ?_
        refine r_goto X dX2_countFitting_28 (tgt := 4) (by decide) ?_
        have q9 := ih (k + 1) (by omega)
        simp only [cf, h1, h2, Bool.false_eq_true, if_false, if_true] at q9
        exact q9
      · first | with_reducible refine r_iincn X dX2_countFitting_22 rfl (by decide) rfl ?_ | refine r_iinc1 X dX2_countFitting_22 rfl (by decide) rfl ?_
        first | with_reducible refine r_iincn X dX2_countFitting_25 rfl (by decide) rfl ?_ | refine r_iinc1 X dX2_countFitting_25 rfl (by decide) rfl ?_
        refine r_goto X dX2_countFitting_28 (tgt := 4) (by decide) ?_
        have q9 := ih (k + 1) (by omega)
        simp only [cf, h1, h2, Bool.false_eq_true, if_false, if_true] at q9
        exact q9

set_option maxHeartbeats 4000000 in
set_option maxRecDepth 100000 in
theorem c_X2_countFitting {l : Launch} {w : Wo} {M : Mem} {G : Lng} {i : Nat} (hnt : l.stackTraces = false) (hw : WK w) (hi : i < 12) : CT l yX2_countFitting [Cond.code yX2_countFitting cX2_countFitting 4 (some .int)] 3 0 0 w [.ref (w.1 (2, 0)), .ref (w.1 (1, i))] M G (okO (some (.int (cf M i 5))) (M) G) := by
  refine CT_of hnt hw.1 mw_X2_countFitting (by simp [Value.category]) (Nat.le_of_ble_eq_true rfl) (fun p e s m args below meth c X => ?_)
  refine r_iconst X dX2_countFitting_0 (v := nI 0) (by decide) ?_
  refine r_istore_n X dX2_countFitting_1 (i := 2) rfl (by decide) rfl ?_
  refine r_iconst X dX2_countFitting_2 (v := nI 0) (by decide) ?_
  refine r_istore_n X dX2_countFitting_3 (i := 3) rfl (by decide) rfl ?_
  exact lp_countFitting hnt hw X hi 5 0 rfl

set_option maxHeartbeats 4000000 in
set_option maxRecDepth 100000 in
theorem lp_clearNeeds {p : Program} {l : Launch} {e : Env} {s : State} {m : MethodId} {args : Array Value} {below : List Frame} {meth : Method} {c : Code} {w : Wo} {M : Mem} {G : Lng} (hnt : l.stackTraces = false) (hw : WK w) (X : Cx p l (rmv 3 0 0) s m args meth c cX2_clearNeeds 2 yX2_clearNeeds.cls none [] w)  : ∀ (n k : Nat) (M1 : Mem), k + n = 5 → M1 = itn clsG k M → VE p l e (rmv 3 0 0) s m args below meth c (0) (0) (QV w (okO none (cls M) G) below args s 0 0) 2 w 2 [some (.ref (w.1 (2, 0))), some (.int (nI k))] [] (ev w (M1) (G)) := by
  intro n
  induction n with
  | zero =>
    intro k M1 hk hM
    refine r_iload_n X dX2_clearNeeds_2 (i := 1) rfl rfl ?_
    refine r_iconst X dX2_clearNeeds_3 (v := nI 5) (by decide) ?_
    first | with_reducible refine r_icmpn_ge X dX2_clearNeeds_4 (tgt := 22) (by decide) (by omega) (by omega) (fun h1 => ?_) (fun h1 => ?_) | refine r_icmp_ge X dX2_clearNeeds_4 (tgt := 22) (by decide) (fun h1 => ?_) (fun h1 => ?_)
    · refine r_vret X dX2_clearNeeds_22 (by first | decide | (simp only [rmv]; omega)) (by first | decide | (simp only [rmv]; omega)) ?_
      first | with_reducible rfl | (rw [hM, show k = 5 by omega]; rfl; done) | contradiction | with_reducible assumption
    · exact absurd h1 (by omega)
  | succ n ih =>
    intro k M1 hk hM
    refine r_iload_n X dX2_clearNeeds_2 (i := 1) rfl rfl ?_
    refine r_iconst X dX2_clearNeeds_3 (v := nI 5) (by decide) ?_
    first | with_reducible refine r_icmpn_ge X dX2_clearNeeds_4 (tgt := 22) (by decide) (by omega) (by omega) (fun h1 => ?_) (fun h1 => ?_) | refine r_icmp_ge X dX2_clearNeeds_4 (tgt := 22) (by decide) (fun h1 => ?_) (fun h1 => ?_)
    · exact absurd h1 (by omega)
    · refine r_aload_n X dX2_clearNeeds_7 (i := 0) rfl rfl ?_
      refine r_get X kc2 (j := 1) (hw.2 _ _ (by first | decide | (simp [cnt] <;> omega))) ev2 (by decide) rfl fl_X2_18 dX2_clearNeeds_8 ?_
      refine r_iload_n X dX2_clearNeeds_11 (i := 1) rfl rfl ?_
      first | refine r_aald X (t0 := 6) (hw.2 _ _ (by first | decide | (simp [cnt] <;> omega))) rfl ev4 (by first | with_reducible rfl | with_reducible assumption | (rw [pk_mul, nI_add])) (by first | with_reducible assumption | omega) (by decide) rfl dX2_clearNeeds_12 ?_ | refine r_aald X (t0 := 5) (hw.2 _ _ (by first | decide | (simp [cnt] <;> omega))) rfl ev5 (by first | with_reducible rfl | with_reducible assumption | (rw [pk_mul, nI_add])) (by first | with_reducible assumption | omega) (by decide) rfl dX2_clearNeeds_12 ?_
      refine r_callVN X (c_X0_clearNeed hnt hw (by first | with_reducible assumption | with_reducible rfl | omega | (with_reducible (repeat (first | assumption | refine DI_chg ?_ | refine DI_give ?_ | refine DI_tk ?_ | refine DI_keep ?_ | refine DI_cls ?_ | refine DI_clS ?_ | refine DI_clr ?_ | refine DI_scr rfl ?_)); done))) mw_X0_clearNeed kc0 mi_X0_clearNeed (hw.2 _ _ (by first | decide | (simp [cnt] <;> omega))) ev0 ml_X2_174 rfl rfl (Nat.le_of_ble_eq_true rfl) (by first | decide | (simp only [rmv]; omega)) (by first | decide | (simp only [rmv]; omega)) (by first | decide | (simp only [rmv]; omega)) (by first | decide | (simp only [rmv]; omega)) dX2_clearNeeds_13 (ko0 ?_)
      first | with_reducible refine r_iincn X dX2_clearNeeds_16 rfl (by decide) rfl ?_ | refine r_iinc1 X dX2_clearNeeds_16 rfl (by decide) rfl ?_
      refine r_goto X dX2_clearNeeds_19 (tgt := 2) (by decide) ?_
      exact ih (k + 1) _ (by omega) (by rw [hM]; rfl)

set_option maxHeartbeats 4000000 in
set_option maxRecDepth 100000 in
theorem c_X2_clearNeeds {l : Launch} {w : Wo} {M : Mem} {G : Lng}  (hnt : l.stackTraces = false) (hw : WK w)  : CT l yX2_clearNeeds [Cond.code yX2_clearNeeds cX2_clearNeeds 2 none] 3 0 0 w [.ref (w.1 (2, 0))] M G (okO none (cls M) G) := by
  refine CT_of hnt hw.1 mw_X2_clearNeeds (by simp [Value.category]) (Nat.le_of_ble_eq_true rfl) (fun p e s m args below meth c X => ?_)
  refine r_iconst X dX2_clearNeeds_0 (v := nI 0) (by decide) ?_
  refine r_istore_n X dX2_clearNeeds_1 (i := 1) rfl (by decide) rfl ?_
  exact lp_clearNeeds hnt hw X 5 0 M rfl rfl

set_option maxHeartbeats 4000000 in
set_option maxRecDepth 100000 in
theorem lp_clearSearch {p : Program} {l : Launch} {e : Env} {s : State} {m : MethodId} {args : Array Value} {below : List Frame} {meth : Method} {c : Code} {w : Wo} {M : Mem} {G : Lng} {v : Int32} (hnt : l.stackTraces = false) (hw : WK w) (X : Cx p l (rmv 4 0 0) s m args meth c cX2_clearSearch 3 yX2_clearSearch.cls none [] w)  : ∀ (n k : Nat) (M1 : Mem), k + n = 12 → M1 = itn clSG k M → VE p l e (rmv 4 0 0) s m args below meth c (0) (0) (QV w (okO none (clS M v) G) below args s 0 0) 3 w 2 [some (.ref (w.1 (2, 0))), some (.int v), some (.int (nI k))] [] (ev w (M1) (G)) := by
  intro n
  induction n with
  | zero =>
    intro k M1 hk hM
    refine r_iload_n X dX2_clearSearch_2 (i := 2) rfl rfl ?_
    refine r_bipush X dX2_clearSearch_3 (v := nI 12) (by decide) ?_
    first | with_reducible refine r_icmpn_ge X dX2_clearSearch_5 (tgt := 28) (by decide) (by omega) (by omega) (fun h1 => ?_) (fun h1 => ?_) | refine r_icmp_ge X dX2_clearSearch_5 (tgt := 28) (by decide) (fun h1 => ?_) (fun h1 => ?_)
    · refine r_aload_n X dX2_clearSearch_28 (i := 0) rfl rfl ?_
      refine r_callV X (c_X2_clearNeeds hnt hw ) mw_X2_clearNeeds kc2 mi_X2_clearNeeds (hw.2 _ _ (by first | decide | (simp [cnt] <;> omega))) ev2 ml_X2_276 rfl rfl (Nat.le_of_ble_eq_true rfl) (by first | decide | (simp only [rmv]; omega)) (by first | decide | (simp only [rmv]; omega)) (by first | decide | (simp only [rmv]; omega)) (by first | decide | (simp only [rmv]; omega)) dX2_clearSearch_29 (ko0 ?_)
      refine r_aload_n X dX2_clearSearch_32 (i := 0) rfl rfl ?_
      refine r_iload_n X dX2_clearSearch_33 (i := 1) rfl rfl ?_
      refine r_put X kc2 (j := 9) (hw.2 _ _ (by first | decide | (simp [cnt] <;> omega))) ev2 (by decide) (Nat.le_of_ble_eq_true rfl) fl_X2_197 rfl rfl rfl dX2_clearSearch_34 es_2_9 ?_
      refine r_vret X dX2_clearSearch_37 (by first | decide | (simp only [rmv]; omega)) (by first | decide | (simp only [rmv]; omega)) ?_
      first | with_reducible rfl | (rw [hM, show k = 12 by omega]; rfl; done) | contradiction | with_reducible assumption
    · exact absurd h1 (by omega)
  | succ n ih =>
    intro k M1 hk hM
    refine r_iload_n X dX2_clearSearch_2 (i := 2) rfl rfl ?_
    refine r_bipush X dX2_clearSearch_3 (v := nI 12) (by decide) ?_
    first | with_reducible refine r_icmpn_ge X dX2_clearSearch_5 (tgt := 28) (by decide) (by omega) (by omega) (fun h1 => ?_) (fun h1 => ?_) | refine r_icmp_ge X dX2_clearSearch_5 (tgt := 28) (by decide) (fun h1 => ?_) (fun h1 => ?_)
    · exact absurd h1 (by omega)
    · refine r_aload_n X dX2_clearSearch_8 (i := 0) rfl rfl ?_
      refine r_get X kc2 (j := 6) (hw.2 _ _ (by first | decide | (simp [cnt] <;> omega))) ev2 (by decide) rfl fl_X2_23 dX2_clearSearch_9 ?_
      refine r_iload_n X dX2_clearSearch_12 (i := 2) rfl rfl ?_
      refine r_iconst X dX2_clearSearch_13 (v := -1) (by decide) ?_
      refine r_iast X (hw.2 _ _ (by first | decide | (simp [cnt] <;> omega))) (evA (by decide) (by decide)) (by first | with_reducible rfl | with_reducible assumption | (rw [pk_mul, nI_add])) (by first | with_reducible assumption | (simp [alen] <;> omega)) (by decide) rfl dX2_clearSearch_14 (esA (by decide) (by decide)) ?_
      refine r_aload_n X dX2_clearSearch_15 (i := 0) rfl rfl ?_
      refine r_get X kc2 (j := 7) (hw.2 _ _ (by first | decide | (simp [cnt] <;> omega))) ev2 (by decide) rfl fl_X2_27 dX2_clearSearch_16 ?_
      refine r_iload_n X dX2_clearSearch_19 (i := 2) rfl rfl ?_
      refine r_iconst X dX2_clearSearch_20 (v := -1) (by decide) ?_
      refine r_iast X (hw.2 _ _ (by first | decide | (simp [cnt] <;> omega))) (evA (by decide) (by decide)) (by first | with_reducible rfl | with_reducible assumption | (rw [pk_mul, nI_add])) (by first | with_reducible assumption | (simp [alen] <;> omega)) (by decide) rfl dX2_clearSearch_21 (esA (by decide) (by decide)) ?_
      first | with_reducible refine r_iincn X dX2_clearSearch_22 rfl (by decide) rfl ?_ | refine r_iinc1 X dX2_clearSearch_22 rfl (by decide) rfl ?_
      refine r_goto X dX2_clearSearch_25 (tgt := 2) (by decide) ?_
      exact ih (k + 1) _ (by omega) (by rw [hM]; rfl)

set_option maxHeartbeats 4000000 in
set_option maxRecDepth 100000 in
theorem c_X2_clearSearch {l : Launch} {w : Wo} {M : Mem} {G : Lng} {v : Int32} (hnt : l.stackTraces = false) (hw : WK w)  : CT l yX2_clearSearch [Cond.code yX2_clearSearch cX2_clearSearch 3 none] 4 0 0 w [.ref (w.1 (2, 0)), .int v] M G (okO none (clS M v) G) := by
  refine CT_of hnt hw.1 mw_X2_clearSearch (by simp [Value.category]) (Nat.le_of_ble_eq_true rfl) (fun p e s m args below meth c X => ?_)
  refine r_iconst X dX2_clearSearch_0 (v := nI 0) (by decide) ?_
  refine r_istore_n X dX2_clearSearch_1 (i := 2) rfl (by decide) rfl ?_
  exact lp_clearSearch hnt hw X 12 0 M rfl rfl

set_option maxHeartbeats 4000000 in
set_option maxRecDepth 100000 in
theorem c_X2_give {l : Launch} {w : Wo} {M : Mem} {G : Lng} {i e9 : Nat} (hnt : l.stackTraces = false) (hw : WK w) (hi : i < 12) (he : e9 < 5) (hD : DI M) : CT l yX2_give [Cond.code yX2_give cX2_give 3 none] 4 0 0 w [.ref (w.1 (2, 0)), .int (nI i), .int (nI e9)] M G (okO none (giveM M i e9) G) := by
  refine CT_of hnt hw.1 mw_X2_give (by simp [Value.category]) (Nat.le_of_ble_eq_true rfl) (fun p e s m args below meth c X => ?_)
  refine r_aload_n X dX2_give_0 (i := 0) rfl rfl ?_
  refine r_get X kc2 (j := 6) (hw.2 _ _ (by first | decide | (simp [cnt] <;> omega))) ev2 (by decide) rfl fl_X2_23 dX2_give_1 ?_
  refine r_iload_n X dX2_give_4 (i := 1) rfl rfl ?_
  refine r_iload_n X dX2_give_5 (i := 2) rfl rfl ?_
  refine r_iast X (hw.2 _ _ (by first | decide | (simp [cnt] <;> omega))) (evA (by decide) (by decide)) (by first | with_reducible rfl | with_reducible assumption | (rw [pk_mul, nI_add])) (by first | with_reducible assumption | (simp [alen] <;> omega)) (by decide) rfl dX2_give_6 (esA (by decide) (by decide)) ?_
  refine r_aload_n X dX2_give_7 (i := 0) rfl rfl ?_
  refine r_get X kc2 (j := 1) (hw.2 _ _ (by first | decide | (simp [cnt] <;> omega))) ev2 (by decide) rfl fl_X2_18 dX2_give_8 ?_
  refine r_iload_n X dX2_give_11 (i := 2) rfl rfl ?_
  first | refine r_aald X (t0 := 6) (hw.2 _ _ (by first | decide | (simp [cnt] <;> omega))) rfl ev4 (by first | with_reducible rfl | with_reducible assumption | (rw [pk_mul, nI_add])) (by first | with_reducible assumption | omega) (by decide) rfl dX2_give_12 ?_ | refine r_aald X (t0 := 5) (hw.2 _ _ (by first | decide | (simp [cnt] <;> omega))) rfl ev5 (by first | with_reducible rfl | with_reducible assumption | (rw [pk_mul, nI_add])) (by first | with_reducible assumption | omega) (by decide) rfl dX2_give_12 ?_
  refine r_aload_n X dX2_give_13 (i := 0) rfl rfl ?_
  refine r_get X kc2 (j := 0) (hw.2 _ _ (by first | decide | (simp [cnt] <;> omega))) ev2 (by decide) rfl fl_X2_11 dX2_give_14 ?_
  refine r_iload_n X dX2_give_17 (i := 1) rfl rfl ?_
  first | refine r_aald X (t0 := 6) (hw.2 _ _ (by first | decide | (simp [cnt] <;> omega))) rfl ev4 (by first | with_reducible rfl | with_reducible assumption | (rw [pk_mul, nI_add])) (by first | with_reducible assumption | omega) (by decide) rfl dX2_give_18 ?_ | refine r_aald X (t0 := 5) (hw.2 _ _ (by first | decide | (simp [cnt] <;> omega))) rfl ev5 (by first | with_reducible rfl | with_reducible assumption | (rw [pk_mul, nI_add])) (by first | with_reducible assumption | omega) (by decide) rfl dX2_give_18 ?_
  refine r_callVN X (c_X0_serve hnt hw (by first | with_reducible assumption | with_reducible rfl | omega | (with_reducible (repeat (first | assumption | refine DI_chg ?_ | refine DI_give ?_ | refine DI_tk ?_ | refine DI_keep ?_ | refine DI_cls ?_ | refine DI_clS ?_ | refine DI_clr ?_ | refine DI_scr rfl ?_)); done)) (by first | with_reducible assumption | with_reducible rfl | omega | (with_reducible (repeat (first | assumption | refine DI_chg ?_ | refine DI_give ?_ | refine DI_tk ?_ | refine DI_keep ?_ | refine DI_cls ?_ | refine DI_clS ?_ | refine DI_clr ?_ | refine DI_scr rfl ?_)); done)) (by first | with_reducible assumption | with_reducible rfl | omega | (with_reducible (repeat (first | assumption | refine DI_chg ?_ | refine DI_give ?_ | refine DI_tk ?_ | refine DI_keep ?_ | refine DI_cls ?_ | refine DI_clS ?_ | refine DI_clr ?_ | refine DI_scr rfl ?_)); done))) mw_X0_serve kc0 mi_X0_serve (hw.2 _ _ (by first | decide | (simp [cnt] <;> omega))) ev0 ml_X2_177 rfl rfl (Nat.le_of_ble_eq_true rfl) (by first | decide | (simp only [rmv]; omega)) (by first | decide | (simp only [rmv]; omega)) (by first | decide | (simp only [rmv]; omega)) (by first | decide | (simp only [rmv]; omega)) dX2_give_19 (ko0 ?_)
  refine r_vret X dX2_give_22 (by first | decide | (simp only [rmv]; omega)) (by first | decide | (simp only [rmv]; omega)) ?_
  first | with_reducible rfl | (rfl; done) | contradiction | with_reducible assumption

set_option maxHeartbeats 4000000 in
set_option maxRecDepth 100000 in
theorem c_X2_takeBack {l : Launch} {w : Wo} {M : Mem} {G : Lng} {i e9 : Nat} (hnt : l.stackTraces = false) (hw : WK w) (hi : i < 12) (he : e9 < 5) (hD : DI M) : CT l yX2_takeBack [Cond.code yX2_takeBack cX2_takeBack 3 none] 4 0 0 w [.ref (w.1 (2, 0)), .int (nI i), .int (nI e9)] M G (okO none (tkM M i e9) G) := by
  refine CT_of hnt hw.1 mw_X2_takeBack (by simp [Value.category]) (Nat.le_of_ble_eq_true rfl) (fun p e s m args below meth c X => ?_)
  refine r_aload_n X dX2_takeBack_0 (i := 0) rfl rfl ?_
  refine r_get X kc2 (j := 6) (hw.2 _ _ (by first | decide | (simp [cnt] <;> omega))) ev2 (by decide) rfl fl_X2_23 dX2_takeBack_1 ?_
  refine r_iload_n X dX2_takeBack_4 (i := 1) rfl rfl ?_
  refine r_iconst X dX2_takeBack_5 (v := -1) (by decide) ?_
  refine r_iast X (hw.2 _ _ (by first | decide | (simp [cnt] <;> omega))) (evA (by decide) (by decide)) (by first | with_reducible rfl | with_reducible assumption | (rw [pk_mul, nI_add])) (by first | with_reducible assumption | (simp [alen] <;> omega)) (by decide) rfl dX2_takeBack_6 (esA (by decide) (by decide)) ?_
  refine r_aload_n X dX2_takeBack_7 (i := 0) rfl rfl ?_
  refine r_get X kc2 (j := 1) (hw.2 _ _ (by first | decide | (simp [cnt] <;> omega))) ev2 (by decide) rfl fl_X2_18 dX2_takeBack_8 ?_
  refine r_iload_n X dX2_takeBack_11 (i := 2) rfl rfl ?_
  first | refine r_aald X (t0 := 6) (hw.2 _ _ (by first | decide | (simp [cnt] <;> omega))) rfl ev4 (by first | with_reducible rfl | with_reducible assumption | (rw [pk_mul, nI_add])) (by first | with_reducible assumption | omega) (by decide) rfl dX2_takeBack_12 ?_ | refine r_aald X (t0 := 5) (hw.2 _ _ (by first | decide | (simp [cnt] <;> omega))) rfl ev5 (by first | with_reducible rfl | with_reducible assumption | (rw [pk_mul, nI_add])) (by first | with_reducible assumption | omega) (by decide) rfl dX2_takeBack_12 ?_
  refine r_aload_n X dX2_takeBack_13 (i := 0) rfl rfl ?_
  refine r_get X kc2 (j := 0) (hw.2 _ _ (by first | decide | (simp [cnt] <;> omega))) ev2 (by decide) rfl fl_X2_11 dX2_takeBack_14 ?_
  refine r_iload_n X dX2_takeBack_17 (i := 1) rfl rfl ?_
  first | refine r_aald X (t0 := 6) (hw.2 _ _ (by first | decide | (simp [cnt] <;> omega))) rfl ev4 (by first | with_reducible rfl | with_reducible assumption | (rw [pk_mul, nI_add])) (by first | with_reducible assumption | omega) (by decide) rfl dX2_takeBack_18 ?_ | refine r_aald X (t0 := 5) (hw.2 _ _ (by first | decide | (simp [cnt] <;> omega))) rfl ev5 (by first | with_reducible rfl | with_reducible assumption | (rw [pk_mul, nI_add])) (by first | with_reducible assumption | omega) (by decide) rfl dX2_takeBack_18 ?_
  refine r_callVN X (c_X0_release hnt hw (by first | with_reducible assumption | with_reducible rfl | omega | (with_reducible (repeat (first | assumption | refine DI_chg ?_ | refine DI_give ?_ | refine DI_tk ?_ | refine DI_keep ?_ | refine DI_cls ?_ | refine DI_clS ?_ | refine DI_clr ?_ | refine DI_scr rfl ?_)); done)) (by first | with_reducible assumption | with_reducible rfl | omega | (with_reducible (repeat (first | assumption | refine DI_chg ?_ | refine DI_give ?_ | refine DI_tk ?_ | refine DI_keep ?_ | refine DI_cls ?_ | refine DI_clS ?_ | refine DI_clr ?_ | refine DI_scr rfl ?_)); done)) (by first | with_reducible assumption | with_reducible rfl | omega | (with_reducible (repeat (first | assumption | refine DI_chg ?_ | refine DI_give ?_ | refine DI_tk ?_ | refine DI_keep ?_ | refine DI_cls ?_ | refine DI_clS ?_ | refine DI_clr ?_ | refine DI_scr rfl ?_)); done))) mw_X0_release kc0 mi_X0_release (hw.2 _ _ (by first | decide | (simp [cnt] <;> omega))) ev0 ml_X2_279 rfl rfl (Nat.le_of_ble_eq_true rfl) (by first | decide | (simp only [rmv]; omega)) (by first | decide | (simp only [rmv]; omega)) (by first | decide | (simp only [rmv]; omega)) (by first | decide | (simp only [rmv]; omega)) dX2_takeBack_19 (ko0 ?_)
  refine r_vret X dX2_takeBack_22 (by first | decide | (simp only [rmv]; omega)) (by first | decide | (simp only [rmv]; omega)) ?_
  first | with_reducible rfl | (rfl; done) | contradiction | with_reducible assumption

set_option maxHeartbeats 4000000 in
set_option maxRecDepth 100000 in
theorem c_X2_keepAsBest {l : Launch} {w : Wo} {M : Mem} {G : Lng} {v : Int32} (hnt : l.stackTraces = false) (hw : WK w)  : CT l yX2_keepAsBest [Cond.code yX2_keepAsBest cX2_keepAsBest 2 none] 2 0 0 w [.ref (w.1 (2, 0)), .int v] M G (okO none (keepM M v) G) := by
  refine CT_of hnt hw.1 mw_X2_keepAsBest (by simp [Value.category]) (Nat.le_of_ble_eq_true rfl) (fun p e s m args below meth c X => ?_)
  refine r_aload_n X dX2_keepAsBest_0 (i := 0) rfl rfl ?_
  refine r_iload_n X dX2_keepAsBest_1 (i := 1) rfl rfl ?_
  refine r_put X kc2 (j := 9) (hw.2 _ _ (by first | decide | (simp [cnt] <;> omega))) ev2 (by decide) (Nat.le_of_ble_eq_true rfl) fl_X2_197 rfl rfl rfl dX2_keepAsBest_2 es_2_9 ?_
  refine r_aload_n X dX2_keepAsBest_5 (i := 0) rfl rfl ?_
  refine r_get X kc2 (j := 6) (hw.2 _ _ (by first | decide | (simp [cnt] <;> omega))) ev2 (by decide) rfl fl_X2_23 dX2_keepAsBest_6 ?_
  refine r_iconst X dX2_keepAsBest_9 (v := nI 0) (by decide) ?_
  refine r_aload_n X dX2_keepAsBest_10 (i := 0) rfl rfl ?_
  refine r_get X kc2 (j := 7) (hw.2 _ _ (by first | decide | (simp [cnt] <;> omega))) ev2 (by decide) rfl fl_X2_27 dX2_keepAsBest_11 ?_
  refine r_iconst X dX2_keepAsBest_14 (v := nI 0) (by decide) ?_
  refine r_bipush X dX2_keepAsBest_15 (v := nI 12) (by decide) ?_
  refine r_copy X (key0 := (6, 0)) (key := (7, 0)) (hw.2 _ _ (by decide)) (hw.2 _ _ (by decide)) (evA (by decide) (by decide)) (evA (by decide) (by decide)) wcopy (by decide) (by decide) (by decide) (by decide) (by decide) (by decide) (by decide +kernel) dX2_keepAsBest_17 esCp ?_
  refine r_vret X dX2_keepAsBest_20 (by first | decide | (simp only [rmv]; omega)) (by first | decide | (simp only [rmv]; omega)) ?_
  first | with_reducible rfl | (rfl; done) | contradiction | with_reducible assumption

set_option maxHeartbeats 4000000 in
set_option maxRecDepth 100000 in
theorem lp_serveByBest {p : Program} {l : Launch} {e : Env} {s : State} {m : MethodId} {args : Array Value} {below : List Frame} {meth : Method} {c : Code} {w : Wo} {M : Mem} {G : Lng} (hnt : l.stackTraces = false) (hw : WK w) (X : Cx p l (rmv 4 0 0) s m args meth c cX2_serveByBest 2 yX2_serveByBest.cls none [] w)  : ∀ (n k : Nat) (M1 : Mem), k + n = 12 → M1 = itn svG k (cls M) → DI M1 → VE p l e (rmv 4 0 0) s m args below meth c (0) (0) (QV w (okO none (svB M) G) below args s 0 0) 2 w 6 [some (.ref (w.1 (2, 0))), some (.int (nI k))] [] (ev w (M1) (G)) := by
  intro n
  induction n with
  | zero =>
    intro k M1 hk hM hD1
    refine r_iload_n X dX2_serveByBest_6 (i := 1) rfl rfl ?_
    refine r_bipush X dX2_serveByBest_7 (v := nI 12) (by decide) ?_
    first | with_reducible refine r_icmpn_ge X dX2_serveByBest_9 (tgt := 52) (by decide) (by omega) (by omega) (fun h1 => ?_) (fun h1 => ?_) | refine r_icmp_ge X dX2_serveByBest_9 (tgt := 52) (by decide) (fun h1 => ?_) (fun h1 => ?_)
    · refine r_vret X dX2_serveByBest_52 (by first | decide | (simp only [rmv]; omega)) (by first | decide | (simp only [rmv]; omega)) ?_
      first | with_reducible rfl | (rw [hM, show k = 12 by omega]; rfl; done) | contradiction | with_reducible assumption
    · exact absurd h1 (by omega)
  | succ n ih =>
    intro k M1 hk hM hD1
    refine r_iload_n X dX2_serveByBest_6 (i := 1) rfl rfl ?_
    refine r_bipush X dX2_serveByBest_7 (v := nI 12) (by decide) ?_
    first | with_reducible refine r_icmpn_ge X dX2_serveByBest_9 (tgt := 52) (by decide) (by omega) (by omega) (fun h1 => ?_) (fun h1 => ?_) | refine r_icmp_ge X dX2_serveByBest_9 (tgt := 52) (by decide) (fun h1 => ?_) (fun h1 => ?_)
    · exact absurd h1 (by omega)
    · refine r_aload_n X dX2_serveByBest_12 (i := 0) rfl rfl ?_
      refine r_get X kc2 (j := 7) (hw.2 _ _ (by first | decide | (simp [cnt] <;> omega))) ev2 (by decide) rfl fl_X2_27 dX2_serveByBest_13 ?_
      refine r_iload_n X dX2_serveByBest_16 (i := 1) rfl rfl ?_
      refine r_iald X (hw.2 _ _ (by first | decide | (simp [cnt] <;> omega))) (evA (by decide) (by decide)) (by first | with_reducible rfl | with_reducible assumption | (rw [pk_mul, nI_add])) (by first | with_reducible assumption | (simp [alen] <;> omega)) (by decide) dX2_serveByBest_17 ?_
      refine r_iconst X dX2_serveByBest_18 (v := nI 0) (by decide) ?_
      refine r_iconst X dX2_serveByBest_19 (v := nI 4) (by decide) ?_
      refine r_callS X (c_X2_isBetween hnt hw ) mw_X2_isBetween mi_X2_isBetween ml_X2_33 rfl rfl (Nat.le_of_ble_eq_true rfl) (by first | decide | (simp only [rmv]; omega)) (by first | decide | (simp only [rmv]; omega)) (by first | decide | (simp only [rmv]; omega)) (by first | decide | (simp only [rmv]; omega)) dX2_serveByBest_20 (ko1 ?_)
      first | with_reducible refine r_ifb_eq X dX2_serveByBest_23 (tgt := 46) (by decide) (fun h2 => ?_) (fun h2 => ?_) | refine r_if_eq X dX2_serveByBest_23 (tgt := 46) (by decide) (fun h2 => ?_) (fun h2 => ?_)
      · first | with_reducible refine r_iincn X dX2_serveByBest_46 rfl (by decide) rfl ?_ | refine r_iinc1 X dX2_serveByBest_46 rfl (by decide) rfl ?_
        refine r_goto X dX2_serveByBest_49 (tgt := 6) (by decide) ?_
        exact ih (k + 1) _ (by omega) (by rw [itn, ← hM]; simp [svG, h1, h2]) (by first | with_reducible assumption | with_reducible rfl | omega | (with_reducible (repeat (first | assumption | refine DI_chg ?_ | refine DI_give ?_ | refine DI_tk ?_ | refine DI_keep ?_ | refine DI_cls ?_ | refine DI_clS ?_ | refine DI_clr ?_ | refine DI_scr rfl ?_)); done))
      · have hx1 := (btw_Rg h2 (by decide)).1
        have hx2 := (btw_Rg h2 (by decide)).2
        refine r_aload_n X dX2_serveByBest_26 (i := 0) rfl rfl ?_
        refine r_get X kc2 (j := 1) (hw.2 _ _ (by first | decide | (simp [cnt] <;> omega))) ev2 (by decide) rfl fl_X2_18 dX2_serveByBest_27 ?_
        refine r_aload_n X dX2_serveByBest_30 (i := 0) rfl rfl ?_
        refine r_get X kc2 (j := 7) (hw.2 _ _ (by first | decide | (simp [cnt] <;> omega))) ev2 (by decide) rfl fl_X2_27 dX2_serveByBest_31 ?_
        refine r_iload_n X dX2_serveByBest_34 (i := 1) rfl rfl ?_
        refine r_iald X (hw.2 _ _ (by first | decide | (simp [cnt] <;> omega))) (evA (by decide) (by decide)) (by first | with_reducible rfl | with_reducible assumption | (rw [pk_mul, nI_add])) (by first | with_reducible assumption | (simp [alen] <;> omega)) (by decide) dX2_serveByBest_35 ?_
        first | refine r_aald X (t0 := 6) (hw.2 _ _ (by first | decide | (simp [cnt] <;> omega))) rfl ev4 (by first | with_reducible rfl | with_reducible assumption | (rw [pk_mul, nI_add])) (by first | with_reducible assumption | omega) (by decide) rfl dX2_serveByBest_36 ?_ | refine r_aald X (t0 := 5) (hw.2 _ _ (by first | decide | (simp [cnt] <;> omega))) rfl ev5 (by first | with_reducible rfl | with_reducible assumption | (rw [pk_mul, nI_add])) (by first | with_reducible assumption | omega) (by decide) rfl dX2_serveByBest_36 ?_
        refine r_aload_n X dX2_serveByBest_37 (i := 0) rfl rfl ?_
        refine r_get X kc2 (j := 0) (hw.2 _ _ (by first | decide | (simp [cnt] <;> omega))) ev2 (by decide) rfl fl_X2_11 dX2_serveByBest_38 ?_
        refine r_iload_n X dX2_serveByBest_41 (i := 1) rfl rfl ?_
        first | refine r_aald X (t0 := 6) (hw.2 _ _ (by first | decide | (simp [cnt] <;> omega))) rfl ev4 (by first | with_reducible rfl | with_reducible assumption | (rw [pk_mul, nI_add])) (by first | with_reducible assumption | omega) (by decide) rfl dX2_serveByBest_42 ?_ | refine r_aald X (t0 := 5) (hw.2 _ _ (by first | decide | (simp [cnt] <;> omega))) rfl ev5 (by first | with_reducible rfl | with_reducible assumption | (rw [pk_mul, nI_add])) (by first | with_reducible assumption | omega) (by decide) rfl dX2_serveByBest_42 ?_
        refine r_callVN X (c_X0_serve hnt hw (by first | with_reducible assumption | with_reducible rfl | omega | (with_reducible (repeat (first | assumption | refine DI_chg ?_ | refine DI_give ?_ | refine DI_tk ?_ | refine DI_keep ?_ | refine DI_cls ?_ | refine DI_clS ?_ | refine DI_clr ?_ | refine DI_scr rfl ?_)); done)) (by first | with_reducible assumption | with_reducible rfl | omega | (with_reducible (repeat (first | assumption | refine DI_chg ?_ | refine DI_give ?_ | refine DI_tk ?_ | refine DI_keep ?_ | refine DI_cls ?_ | refine DI_clS ?_ | refine DI_clr ?_ | refine DI_scr rfl ?_)); done)) (by first | with_reducible assumption | with_reducible rfl | omega | (with_reducible (repeat (first | assumption | refine DI_chg ?_ | refine DI_give ?_ | refine DI_tk ?_ | refine DI_keep ?_ | refine DI_cls ?_ | refine DI_clS ?_ | refine DI_clr ?_ | refine DI_scr rfl ?_)); done))) mw_X0_serve kc0 mi_X0_serve (hw.2 _ _ (by first | decide | (simp [cnt] <;> omega))) ev0 ml_X2_177 rfl rfl (Nat.le_of_ble_eq_true rfl) (by first | decide | (simp only [rmv]; omega)) (by first | decide | (simp only [rmv]; omega)) (by first | decide | (simp only [rmv]; omega)) (by first | decide | (simp only [rmv]; omega)) dX2_serveByBest_43 (ko0 ?_)
        first | with_reducible refine r_iincn X dX2_serveByBest_46 rfl (by decide) rfl ?_ | refine r_iinc1 X dX2_serveByBest_46 rfl (by decide) rfl ?_
        refine r_goto X dX2_serveByBest_49 (tgt := 6) (by decide) ?_
        exact ih (k + 1) _ (by omega) (by rw [itn, ← hM]; simp [svG, h1, h2]) (by first | with_reducible assumption | with_reducible rfl | omega | (with_reducible (repeat (first | assumption | refine DI_chg ?_ | refine DI_give ?_ | refine DI_tk ?_ | refine DI_keep ?_ | refine DI_cls ?_ | refine DI_clS ?_ | refine DI_clr ?_ | refine DI_scr rfl ?_)); done))

set_option maxHeartbeats 4000000 in
set_option maxRecDepth 100000 in
theorem c_X2_serveByBest {l : Launch} {w : Wo} {M : Mem} {G : Lng}  (hnt : l.stackTraces = false) (hw : WK w) (hD : DI M) : CT l yX2_serveByBest [Cond.code yX2_serveByBest cX2_serveByBest 2 none] 4 0 0 w [.ref (w.1 (2, 0))] M G (okO none (svB M) G) := by
  refine CT_of hnt hw.1 mw_X2_serveByBest (by simp [Value.category]) (Nat.le_of_ble_eq_true rfl) (fun p e s m args below meth c X => ?_)
  refine r_aload_n X dX2_serveByBest_0 (i := 0) rfl rfl ?_
  refine r_callV X (c_X2_clearNeeds hnt hw ) mw_X2_clearNeeds kc2 mi_X2_clearNeeds (hw.2 _ _ (by first | decide | (simp [cnt] <;> omega))) ev2 ml_X2_276 rfl rfl (Nat.le_of_ble_eq_true rfl) (by first | decide | (simp only [rmv]; omega)) (by first | decide | (simp only [rmv]; omega)) (by first | decide | (simp only [rmv]; omega)) (by first | decide | (simp only [rmv]; omega)) dX2_serveByBest_1 (ko0 ?_)
  refine r_iconst X dX2_serveByBest_4 (v := nI 0) (by decide) ?_
  refine r_istore_n X dX2_serveByBest_5 (i := 1) rfl (by decide) rfl ?_
  exact lp_serveByBest hnt hw X 12 0 _ rfl rfl (DI_cls hD)

set_option maxHeartbeats 4000000 in
set_option maxRecDepth 100000 in
theorem lp_countGiven {p : Program} {l : Launch} {e : Env} {s : State} {m : MethodId} {args : Array Value} {below : List Frame} {meth : Method} {c : Code} {w : Wo} {M : Mem} {G : Lng} (hnt : l.stackTraces = false) (hw : WK w) (X : Cx p l (rmv 3 0 0) s m args meth c cX2_countGiven 3 yX2_countGiven.cls (some .int) [] w)  : ∀ (n k : Nat), k + n = 12 → VE p l e (rmv 3 0 0) s m args below meth c (0) (0) (QV w (okO (some (.int (cgv M 12))) (M) G) below args s 0 0) 3 w 4 [some (.ref (w.1 (2, 0))), some (.int (cgv M k)), some (.int (nI k))] [] (ev w (M) (G)) := by
  intro n
  induction n with
  | zero =>
    intro k hk
    refine r_iload_n X dX2_countGiven_4 (i := 2) rfl rfl ?_
    refine r_bipush X dX2_countGiven_5 (v := nI 12) (by decide) ?_
    first | with_reducible refine r_icmpn_ge X dX2_countGiven_7 (tgt := 29) (by decide) (by omega) (by omega) (fun h1 => ?_) (fun h1 => ?_) | refine r_icmp_ge X dX2_countGiven_7 (tgt := 29) (by decide) (fun h1 => ?_) (fun h1 => ?_)
    · refine r_iload_n X dX2_countGiven_29 (i := 1) rfl rfl ?_
      refine r_iret X dX2_countGiven_30 (by first | decide | (simp only [rmv]; omega)) (by first | decide | (simp only [rmv]; omega)) ?_
      first | with_reducible rfl | (rw [show k = 12 by omega]; done) | contradiction | with_reducible assumption
    · exact absurd h1 (by omega)
  | succ n ih =>
    intro k hk
    refine r_iload_n X dX2_countGiven_4 (i := 2) rfl rfl ?_
    refine r_bipush X dX2_countGiven_5 (v := nI 12) (by decide) ?_
    first | with_reducible refine r_icmpn_ge X dX2_countGiven_7 (tgt := 29) (by decide) (by omega) (by omega) (fun h1 => ?_) (fun h1 => ?_) | refine r_icmp_ge X dX2_countGiven_7 (tgt := 29) (by decide) (fun h1 => ?_) (fun h1 => ?_)
    · exact absurd h1 (by omega)
    · refine r_aload_n X dX2_countGiven_10 (i := 0) rfl rfl ?_
      refine r_get X kc2 (j := 6) (hw.2 _ _ (by first | decide | (simp [cnt] <;> omega))) ev2 (by decide) rfl fl_X2_23 dX2_countGiven_11 ?_
      refine r_iload_n X dX2_countGiven_14 (i := 2) rfl rfl ?_
      refine r_iald X (hw.2 _ _ (by first | decide | (simp [cnt] <;> omega))) (evA (by decide) (by decide)) (by first | with_reducible rfl | with_reducible assumption | (rw [pk_mul, nI_add])) (by first | with_reducible assumption | (simp [alen] <;> omega)) (by decide) dX2_countGiven_15 ?_
      refine r_iconst X dX2_countGiven_16 (v := -1) (by decide) ?_
      first | with_reducible refine r_icmpn_eq X dX2_countGiven_17 (tgt := 23) (by decide) (by omega) (by omega) (fun h2 => ?_) (fun h2 => ?_) | refine r_icmp_eq X dX2_countGiven_17 (tgt := 23) (by decide) (fun h2 => ?_) (fun h2 => ?_)
      · first | with_reducible refine r_iincn X dX2_countGiven_23 rfl (by decide) rfl ?_ | refine r_iinc1 X dX2_countGiven_23 rfl (by decide) rfl ?_
        refine r_goto X dX2_countGiven_26 (tgt := 4) (by decide) ?_
        have q9 := ih (k + 1) (by omega)
        simp only [cgv, h1, h2, Bool.false_eq_true, if_false, if_true] at q9
        exact q9
      · first | with_reducible refine r_iincn X dX2_countGiven_20 rfl (by decide) rfl ?_ | refine r_iinc1 X dX2_countGiven_20 rfl (by decide) rfl ?_
        first | with_reducible refine r_iincn X dX2_countGiven_23 rfl (by decide) rfl ?_ | refine r_iinc1 X dX2_countGiven_23 rfl (by decide) rfl ?_
        refine r_goto X dX2_countGiven_26 (tgt := 4) (by decide) ?_
        have q9 := ih (k + 1) (by omega)
        simp only [cgv, h1, h2, Bool.false_eq_true, if_false, if_true] at q9
        exact q9

set_option maxHeartbeats 4000000 in
set_option maxRecDepth 100000 in
theorem c_X2_countGiven {l : Launch} {w : Wo} {M : Mem} {G : Lng}  (hnt : l.stackTraces = false) (hw : WK w)  : CT l yX2_countGiven [Cond.code yX2_countGiven cX2_countGiven 3 (some .int)] 3 0 0 w [.ref (w.1 (2, 0))] M G (okO (some (.int (cgv M 12))) (M) G) := by
  refine CT_of hnt hw.1 mw_X2_countGiven (by simp [Value.category]) (Nat.le_of_ble_eq_true rfl) (fun p e s m args below meth c X => ?_)
  refine r_iconst X dX2_countGiven_0 (v := nI 0) (by decide) ?_
  refine r_istore_n X dX2_countGiven_1 (i := 1) rfl (by decide) rfl ?_
  refine r_iconst X dX2_countGiven_2 (v := nI 0) (by decide) ?_
  refine r_istore_n X dX2_countGiven_3 (i := 2) rfl (by decide) rfl ?_
  exact lp_countGiven hnt hw X 12 0 rfl

set_option maxHeartbeats 4000000 in
set_option maxRecDepth 100000 in
theorem lp_isAllowed {p : Program} {l : Launch} {e : Env} {s : State} {m : MethodId} {args : Array Value} {below : List Frame} {meth : Method} {c : Code} {w : Wo} {M : Mem} {G : Lng} (hnt : l.stackTraces = false) (hw : WK w) (X : Cx p l (rmv 3 0 0) s m args meth c cX2_isAllowed 2 yX2_isAllowed.cls (some .boolean) [] w)  : ∀ (n k : Nat), k + n = 5 → ∀ bb : Bool, bb = alF M n k → VE p l e (rmv 3 0 0) s m args below meth c (0) (0) (QV w (okO (some (.int (bi bb))) (M) G) below args s 0 0) 2 w 2 [some (.ref (w.1 (2, 0))), some (.int (nI k))] [] (ev w (M) (G)) := by
  intro n
  induction n with
  | zero =>
    intro k hk bb hb
    refine r_iload_n X dX2_isAllowed_2 (i := 1) rfl rfl ?_
    refine r_iconst X dX2_isAllowed_3 (v := nI 5) (by decide) ?_
    first | with_reducible refine r_icmpn_ge X dX2_isAllowed_4 (tgt := 27) (by decide) (by omega) (by omega) (fun h1 => ?_) (fun h1 => ?_) | refine r_icmp_ge X dX2_isAllowed_4 (tgt := 27) (by decide) (fun h1 => ?_) (fun h1 => ?_)
    · refine r_iconst X dX2_isAllowed_27 (v := nI 1) (by decide) ?_
      refine r_zret X dX2_isAllowed_28 (by first | decide | (simp only [rmv]; omega)) (by first | decide | (simp only [rmv]; omega)) (by with_reducible rfl) ?_
      first | with_reducible rfl | (simp [alF, bi_f, bi_t, hb, h1]; done) | contradiction
    · exact absurd h1 (by omega)
  | succ n ih =>
    intro k hk bb hb
    refine r_iload_n X dX2_isAllowed_2 (i := 1) rfl rfl ?_
    refine r_iconst X dX2_isAllowed_3 (v := nI 5) (by decide) ?_
    first | with_reducible refine r_icmpn_ge X dX2_isAllowed_4 (tgt := 27) (by decide) (by omega) (by omega) (fun h1 => ?_) (fun h1 => ?_) | refine r_icmp_ge X dX2_isAllowed_4 (tgt := 27) (by decide) (fun h1 => ?_) (fun h1 => ?_)
    · exact absurd h1 (by omega)
    · refine r_aload_n X dX2_isAllowed_7 (i := 0) rfl rfl ?_
      refine r_get X kc2 (j := 1) (hw.2 _ _ (by first | decide | (simp [cnt] <;> omega))) ev2 (by decide) rfl fl_X2_18 dX2_isAllowed_8 ?_
      refine r_iload_n X dX2_isAllowed_11 (i := 1) rfl rfl ?_
      first | refine r_aald X (t0 := 6) (hw.2 _ _ (by first | decide | (simp [cnt] <;> omega))) rfl ev4 (by first | with_reducible rfl | with_reducible assumption | (rw [pk_mul, nI_add])) (by first | with_reducible assumption | omega) (by decide) rfl dX2_isAllowed_12 ?_ | refine r_aald X (t0 := 5) (hw.2 _ _ (by first | decide | (simp [cnt] <;> omega))) rfl ev5 (by first | with_reducible rfl | with_reducible assumption | (rw [pk_mul, nI_add])) (by first | with_reducible assumption | omega) (by decide) rfl dX2_isAllowed_12 ?_
      refine r_callVN X (c_X0_missing hnt hw (by first | with_reducible assumption | with_reducible rfl | omega | (with_reducible (repeat (first | assumption | refine DI_chg ?_ | refine DI_give ?_ | refine DI_tk ?_ | refine DI_keep ?_ | refine DI_cls ?_ | refine DI_clS ?_ | refine DI_clr ?_ | refine DI_scr rfl ?_)); done))) mw_X0_missing kc0 mi_X0_missing (hw.2 _ _ (by first | decide | (simp [cnt] <;> omega))) ev0 ml_X2_225 rfl rfl (Nat.le_of_ble_eq_true rfl) (by first | decide | (simp only [rmv]; omega)) (by first | decide | (simp only [rmv]; omega)) (by first | decide | (simp only [rmv]; omega)) (by first | decide | (simp only [rmv]; omega)) dX2_isAllowed_13 (ko1 ?_)
      refine r_if_le X dX2_isAllowed_16 (tgt := 21) (by decide) (fun h2 => ?_) (fun h2 => ?_)
      · first | with_reducible refine r_iincn X dX2_isAllowed_21 rfl (by decide) rfl ?_ | refine r_iinc1 X dX2_isAllowed_21 rfl (by decide) rfl ?_
        refine r_goto X dX2_isAllowed_24 (tgt := 2) (by decide) ?_
        exact ih (k + 1) (by omega) bb (by rw [hb]; simp [alF, h1, h2])
      · refine r_iconst X dX2_isAllowed_19 (v := nI 0) (by decide) ?_
        refine r_zret X dX2_isAllowed_20 (by first | decide | (simp only [rmv]; omega)) (by first | decide | (simp only [rmv]; omega)) (by with_reducible rfl) ?_
        first | with_reducible rfl | (simp [alF, bi_f, bi_t, hb, h1, h2]; done) | contradiction

set_option maxHeartbeats 4000000 in
set_option maxRecDepth 100000 in
theorem c_X2_isAllowed {l : Launch} {w : Wo} {M : Mem} {G : Lng}  (hnt : l.stackTraces = false) (hw : WK w)  : CT l yX2_isAllowed [Cond.code yX2_isAllowed cX2_isAllowed 2 (some .boolean)] 3 0 0 w [.ref (w.1 (2, 0))] M G (okO (some (.int (bi (alF M 5 0)))) (M) G) := by
  refine CT_of hnt hw.1 mw_X2_isAllowed (by simp [Value.category]) (Nat.le_of_ble_eq_true rfl) (fun p e s m args below meth c X => ?_)
  refine r_iconst X dX2_isAllowed_0 (v := nI 0) (by decide) ?_
  refine r_istore_n X dX2_isAllowed_1 (i := 1) rfl (by decide) rfl ?_
  exact lp_isAllowed hnt hw X 5 0 rfl _ rfl

set_option maxHeartbeats 4000000 in
set_option maxRecDepth 100000 in
theorem lp_sumOfMissing {p : Program} {l : Launch} {e : Env} {s : State} {m : MethodId} {args : Array Value} {below : List Frame} {meth : Method} {c : Code} {w : Wo} {M : Mem} {G : Lng} (hnt : l.stackTraces = false) (hw : WK w) (X : Cx p l (rmv 4 0 0) s m args meth c cX2_sumOfMissing 3 yX2_sumOfMissing.cls (some .int) [] w)  : ∀ (n k : Nat), k + n = 5 → VE p l e (rmv 4 0 0) s m args below meth c (0) (0) (QV w (okO (some (.int (smM M 5))) (M) G) below args s 0 0) 3 w 4 [some (.ref (w.1 (2, 0))), some (.int (smM M k)), some (.int (nI k))] [] (ev w (M) (G)) := by
  intro n
  induction n with
  | zero =>
    intro k hk
    refine r_iload_n X dX2_sumOfMissing_4 (i := 2) rfl rfl ?_
    refine r_iconst X dX2_sumOfMissing_5 (v := nI 5) (by decide) ?_
    first | with_reducible refine r_icmpn_ge X dX2_sumOfMissing_6 (tgt := 27) (by decide) (by omega) (by omega) (fun h1 => ?_) (fun h1 => ?_) | refine r_icmp_ge X dX2_sumOfMissing_6 (tgt := 27) (by decide) (fun h1 => ?_) (fun h1 => ?_)
    · refine r_iload_n X dX2_sumOfMissing_27 (i := 1) rfl rfl ?_
      refine r_iret X dX2_sumOfMissing_28 (by first | decide | (simp only [rmv]; omega)) (by first | decide | (simp only [rmv]; omega)) ?_
      first | with_reducible rfl | (rw [show k = 5 by omega]; done) | contradiction | with_reducible assumption
    · exact absurd h1 (by omega)
  | succ n ih =>
    intro k hk
    refine r_iload_n X dX2_sumOfMissing_4 (i := 2) rfl rfl ?_
    refine r_iconst X dX2_sumOfMissing_5 (v := nI 5) (by decide) ?_
    first | with_reducible refine r_icmpn_ge X dX2_sumOfMissing_6 (tgt := 27) (by decide) (by omega) (by omega) (fun h1 => ?_) (fun h1 => ?_) | refine r_icmp_ge X dX2_sumOfMissing_6 (tgt := 27) (by decide) (fun h1 => ?_) (fun h1 => ?_)
    · exact absurd h1 (by omega)
    · refine r_iload_n X dX2_sumOfMissing_9 (i := 1) rfl rfl ?_
      refine r_aload_n X dX2_sumOfMissing_10 (i := 0) rfl rfl ?_
      refine r_get X kc2 (j := 1) (hw.2 _ _ (by first | decide | (simp [cnt] <;> omega))) ev2 (by decide) rfl fl_X2_18 dX2_sumOfMissing_11 ?_
      refine r_iload_n X dX2_sumOfMissing_14 (i := 2) rfl rfl ?_
      first | refine r_aald X (t0 := 6) (hw.2 _ _ (by first | decide | (simp [cnt] <;> omega))) rfl ev4 (by first | with_reducible rfl | with_reducible assumption | (rw [pk_mul, nI_add])) (by first | with_reducible assumption | omega) (by decide) rfl dX2_sumOfMissing_15 ?_ | refine r_aald X (t0 := 5) (hw.2 _ _ (by first | decide | (simp [cnt] <;> omega))) rfl ev5 (by first | with_reducible rfl | with_reducible assumption | (rw [pk_mul, nI_add])) (by first | with_reducible assumption | omega) (by decide) rfl dX2_sumOfMissing_15 ?_
      refine r_callVN X (c_X0_missingPrice hnt hw (by first | with_reducible assumption | with_reducible rfl | omega | (with_reducible (repeat (first | assumption | refine DI_chg ?_ | refine DI_give ?_ | refine DI_tk ?_ | refine DI_keep ?_ | refine DI_cls ?_ | refine DI_clS ?_ | refine DI_clr ?_ | refine DI_scr rfl ?_)); done))) mw_X0_missingPrice kc0 mi_X0_missingPrice (hw.2 _ _ (by first | decide | (simp [cnt] <;> omega))) ev0 ml_X2_263 rfl rfl (Nat.le_of_ble_eq_true rfl) (by first | decide | (simp only [rmv]; omega)) (by first | decide | (simp only [rmv]; omega)) (by first | decide | (simp only [rmv]; omega)) (by first | decide | (simp only [rmv]; omega)) dX2_sumOfMissing_16 (ko1 ?_)
      refine r_iadd X dX2_sumOfMissing_19 ?_
      refine r_istore_n X dX2_sumOfMissing_20 (i := 1) rfl (by decide) rfl ?_
      first | with_reducible refine r_iincn X dX2_sumOfMissing_21 rfl (by decide) rfl ?_ | refine r_iinc1 X dX2_sumOfMissing_21 rfl (by decide) rfl ?_
      refine r_goto X dX2_sumOfMissing_24 (tgt := 4) (by decide) ?_
      exact ih (k + 1) (by omega)

set_option maxHeartbeats 4000000 in
set_option maxRecDepth 100000 in
theorem c_X2_sumOfMissing {l : Launch} {w : Wo} {M : Mem} {G : Lng}  (hnt : l.stackTraces = false) (hw : WK w)  : CT l yX2_sumOfMissing [Cond.code yX2_sumOfMissing cX2_sumOfMissing 3 (some .int)] 4 0 0 w [.ref (w.1 (2, 0))] M G (okO (some (.int (smM M 5))) (M) G) := by
  refine CT_of hnt hw.1 mw_X2_sumOfMissing (by simp [Value.category]) (Nat.le_of_ble_eq_true rfl) (fun p e s m args below meth c X => ?_)
  refine r_iconst X dX2_sumOfMissing_0 (v := nI 0) (by decide) ?_
  refine r_istore_n X dX2_sumOfMissing_1 (i := 1) rfl (by decide) rfl ?_
  refine r_iconst X dX2_sumOfMissing_2 (v := nI 0) (by decide) ?_
  refine r_istore_n X dX2_sumOfMissing_3 (i := 2) rfl (by decide) rfl ?_
  exact lp_sumOfMissing hnt hw X 5 0 rfl

set_option maxHeartbeats 4000000 in
set_option maxRecDepth 100000 in
theorem lp_check {p : Program} {l : Launch} {e : Env} {s : State} {m : MethodId} {args : Array Value} {below : List Frame} {meth : Method} {c : Code} {w : Wo} {M : Mem} {G : Lng} (hnt : l.stackTraces = false) (hw : WK w) (X : Cx p l (rmv 7 1 6) s m args meth c cX2_checkAllCanBeCovered 2 yX2_checkAllCanBeCovered.cls none [] w)  : ∀ (n k : Nat), k + n = 12 → ∀ bb : Bool, bb = ckF M n k → VE p l e (rmv 7 1 6) s m args below meth c (0) (0) (QV w (if bb = true then okO none M G else thO xNSE M G) below args s 1 6) 2 w 2 [some (.ref (w.1 (2, 0))), some (.int (nI k))] [] (ev w (M) (G)) := by
  intro n
  induction n with
  | zero =>
    intro k hk bb hb
    refine r_iload_n X dX2_checkAllCanBeCovered_2 (i := 1) rfl rfl ?_
    refine r_bipush X dX2_checkAllCanBeCovered_3 (v := nI 12) (by decide) ?_
    first | with_reducible refine r_icmpn_ge X dX2_checkAllCanBeCovered_5 (tgt := 49) (by decide) (by omega) (by omega) (fun h1 => ?_) (fun h1 => ?_) | refine r_icmp_ge X dX2_checkAllCanBeCovered_5 (tgt := 49) (by decide) (fun h1 => ?_) (fun h1 => ?_)
    · refine r_vret X dX2_checkAllCanBeCovered_49 (by first | decide | (simp only [rmv]; omega)) (by first | decide | (simp only [rmv]; omega)) ?_
      first | with_reducible rfl | (simp [ckF, hb, h1]; done) | contradiction | with_reducible assumption
    · exact absurd h1 (by omega)
  | succ n ih =>
    intro k hk bb hb
    refine r_iload_n X dX2_checkAllCanBeCovered_2 (i := 1) rfl rfl ?_
    refine r_bipush X dX2_checkAllCanBeCovered_3 (v := nI 12) (by decide) ?_
    first | with_reducible refine r_icmpn_ge X dX2_checkAllCanBeCovered_5 (tgt := 49) (by decide) (by omega) (by omega) (fun h1 => ?_) (fun h1 => ?_) | refine r_icmp_ge X dX2_checkAllCanBeCovered_5 (tgt := 49) (by decide) (fun h1 => ?_) (fun h1 => ?_)
    · exact absurd h1 (by omega)
    · refine r_aload_n X dX2_checkAllCanBeCovered_8 (i := 0) rfl rfl ?_
      refine r_get X kc2 (j := 0) (hw.2 _ _ (by first | decide | (simp [cnt] <;> omega))) ev2 (by decide) rfl fl_X2_11 dX2_checkAllCanBeCovered_9 ?_
      refine r_iload_n X dX2_checkAllCanBeCovered_12 (i := 1) rfl rfl ?_
      first | refine r_aald X (t0 := 6) (hw.2 _ _ (by first | decide | (simp [cnt] <;> omega))) rfl ev4 (by first | with_reducible rfl | with_reducible assumption | (rw [pk_mul, nI_add])) (by first | with_reducible assumption | omega) (by decide) rfl dX2_checkAllCanBeCovered_13 ?_ | refine r_aald X (t0 := 5) (hw.2 _ _ (by first | decide | (simp [cnt] <;> omega))) rfl ev5 (by first | with_reducible rfl | with_reducible assumption | (rw [pk_mul, nI_add])) (by first | with_reducible assumption | omega) (by decide) rfl dX2_checkAllCanBeCovered_13 ?_
      refine r_getN X kc1 (j := 0) (hw.2 _ _ (by first | decide | (simp [cnt] <;> omega))) ev1 (by decide) rfl fl_X2_75 dX2_checkAllCanBeCovered_14 ?_
      first | with_reducible refine r_ifb_eq X dX2_checkAllCanBeCovered_17 (tgt := 43) (by decide) (fun h2 => ?_) (fun h2 => ?_) | refine r_if_eq X dX2_checkAllCanBeCovered_17 (tgt := 43) (by decide) (fun h2 => ?_) (fun h2 => ?_)
      · first | with_reducible refine r_iincn X dX2_checkAllCanBeCovered_43 rfl (by decide) rfl ?_ | refine r_iinc1 X dX2_checkAllCanBeCovered_43 rfl (by decide) rfl ?_
        refine r_goto X dX2_checkAllCanBeCovered_46 (tgt := 2) (by decide) ?_
        exact ih (k + 1) (by omega) bb (by rw [hb]; simp [ckF, h1, h2])
      · refine r_aload_n X dX2_checkAllCanBeCovered_20 (i := 0) rfl rfl ?_
        refine r_aload_n X dX2_checkAllCanBeCovered_21 (i := 0) rfl rfl ?_
        refine r_get X kc2 (j := 0) (hw.2 _ _ (by first | decide | (simp [cnt] <;> omega))) ev2 (by decide) rfl fl_X2_11 dX2_checkAllCanBeCovered_22 ?_
        refine r_iload_n X dX2_checkAllCanBeCovered_25 (i := 1) rfl rfl ?_
        first | refine r_aald X (t0 := 6) (hw.2 _ _ (by first | decide | (simp [cnt] <;> omega))) rfl ev4 (by first | with_reducible rfl | with_reducible assumption | (rw [pk_mul, nI_add])) (by first | with_reducible assumption | omega) (by decide) rfl dX2_checkAllCanBeCovered_26 ?_ | refine r_aald X (t0 := 5) (hw.2 _ _ (by first | decide | (simp [cnt] <;> omega))) rfl ev5 (by first | with_reducible rfl | with_reducible assumption | (rw [pk_mul, nI_add])) (by first | with_reducible assumption | omega) (by decide) rfl dX2_checkAllCanBeCovered_26 ?_
        refine r_callV X (c_X2_countFitting hnt hw (by first | with_reducible assumption | with_reducible rfl | omega | (with_reducible (repeat (first | assumption | refine DI_chg ?_ | refine DI_give ?_ | refine DI_tk ?_ | refine DI_keep ?_ | refine DI_cls ?_ | refine DI_clS ?_ | refine DI_clr ?_ | refine DI_scr rfl ?_)); done))) mw_X2_countFitting kc2 mi_X2_countFitting (hw.2 _ _ (by first | decide | (simp [cnt] <;> omega))) ev2 ml_X2_161 rfl rfl (Nat.le_of_ble_eq_true rfl) (by first | decide | (simp only [rmv]; omega)) (by first | decide | (simp only [rmv]; omega)) (by first | decide | (simp only [rmv]; omega)) (by first | decide | (simp only [rmv]; omega)) dX2_checkAllCanBeCovered_27 (ko1 ?_)
        first | with_reducible refine r_ifb_ne X dX2_checkAllCanBeCovered_30 (tgt := 43) (by decide) (fun h3 => ?_) (fun h3 => ?_) | refine r_if_ne X dX2_checkAllCanBeCovered_30 (tgt := 43) (by decide) (fun h3 => ?_) (fun h3 => ?_)
        · first | with_reducible refine r_iincn X dX2_checkAllCanBeCovered_43 rfl (by decide) rfl ?_ | refine r_iinc1 X dX2_checkAllCanBeCovered_43 rfl (by decide) rfl ?_
          refine r_goto X dX2_checkAllCanBeCovered_46 (tgt := 2) (by decide) ?_
          exact ih (k + 1) (by omega) bb (by rw [hb]; simp [ckF, h1, h2, h3])
        · refine r_throwN X dnse_0 dnse_1 dnse_2 dnse_5 kl_169 ki_xNSE (sw_244) at_xNSE dX2_checkAllCanBeCovered_33 dX2_checkAllCanBeCovered_36 dX2_checkAllCanBeCovered_37 dX2_checkAllCanBeCovered_39 dX2_checkAllCanBeCovered_42 (by first | decide | (simp only [rmv]; omega)) (by first | decide | (simp [Value.category, rmv] <;> omega)) (by first | decide | (simp only [rmv]; omega)) (by first | decide | (simp only [rmv]; omega)) (by first | decide | (simp only [rmv]; omega)) (by first | decide | (simp only [rmv]; omega)) ?_
          simp [ckF, hb, h1, h2, h3]

set_option maxHeartbeats 4000000 in
set_option maxRecDepth 100000 in
theorem c_X2_checkAllCanBeCovered {l : Launch} {w : Wo} {M : Mem} {G : Lng}  (hnt : l.stackTraces = false) (hw : WK w)  : CT l yX2_checkAllCanBeCovered [Cond.code yX2_checkAllCanBeCovered cX2_checkAllCanBeCovered 2 none] 7 1 6 w [.ref (w.1 (2, 0))] M G (if ckF M 12 0 = true then okO none M G else thO xNSE M G) := by
  refine CT_of hnt hw.1 mw_X2_checkAllCanBeCovered (by simp [Value.category]) (Nat.le_of_ble_eq_true rfl) (fun p e s m args below meth c X => ?_)
  refine r_iconst X dX2_checkAllCanBeCovered_0 (v := nI 0) (by decide) ?_
  refine r_istore_n X dX2_checkAllCanBeCovered_1 (i := 1) rfl (by decide) rfl ?_
  exact lp_check hnt hw X 12 0 rfl _ rfl

end M4
