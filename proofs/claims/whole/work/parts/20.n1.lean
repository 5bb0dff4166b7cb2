/-! THE MODEL: its leaves, its lookups and writes -/
section N1
theorem btw_cnt {c : Int32} {N : Nat} (hc : Rg c N) (hN : N ≤ 100) (x : Int32) : btw x (nI 0) (c - nI 1) = true ↔ Rg x (ix c) := by
  obtain ⟨h1, h2⟩ := hc
  rw [h1, ixn (show ix c < 2 ^ 31 by omega)]
  generalize ix c = n at h2
  match n, h2 with
  | 0, _ =>
    constructor
    · intro h
      simp only [btw, Bool.and_eq_true, Bool.not_eq_true', decide_eq_false_iff_not] at h
      obtain ⟨j, hj, rfl⟩ := nI_of (x := x) h.1
      exact absurd h.2 (by
        rw [Decidable.not_not, show nI 0 - nI 1 = -1 from by decide, Int32.lt_iff_toInt_lt, nI_toInt hj]
        show (-1 : Int) < _
        omega)
    · intro h
      exact absurd h.2 (Nat.not_lt_zero _)
  | n + 1, hn =>
    rw [pk_sub (by omega), show n + 1 - 1 = n by omega]
    exact ⟨fun h => btw_Rg h (by omega), fun h => h.btw (by omega)⟩
def scm (c k : Nat) : Bool := (decide (c = 3) && (decide (k = 0) || decide (k = 4))) || decide (c = 29) || decide (c = 30) || decide (c = 31)
def Mm (M M1 : Mem) : Prop := ∀ c i k, scm c k = false → M1 c i k = M c i k
theorem Mm.rf {M : Mem} : Mm M M := fun _ _ _ _ => rfl
theorem Mm.tr {A B C : Mem} (h : Mm A B) (h2 : Mm B C) : Mm A C := fun c i k hs => (h2 c i k hs).trans (h c i k hs)
theorem Mm_ms {M M1 : Mem} {c i k : Nat} {v : Int32} (h : Mm M M1) (hc : scm c k = true) : Mm M (ms M1 c i k v) := fun c' i' k' hs => by
  rw [ms_o]
  · exact h c' i' k' hs
  · rintro ⟨rfl, -, rfl⟩
    rw [hc] at hs
    cases hs
theorem Mm_itn {M M1 : Mem} {g : Nat → Mem → Mem} (hg : ∀ k A, Mm M A → Mm M (g k A)) (h : Mm M M1) : ∀ n, Mm M (itn g n M1)
  | 0 => h
  | n + 1 => hg n _ (Mm_itn hg h n)
/-- what stands of the model between calls -/
def DM (M : Mem) : Prop := Rg (M 3 0 1) 13 ∧ Rg (M 3 0 2) 7 ∧ Rg (M 3 0 3) 6 ∧ ∀ i, i < 12 → Rg (M 10 0 i) 4
theorem DM.mm {M M1 : Mem} (h : DM M) (hs : Mm M M1) : DM M1 := by
  unfold DM
  rw [hs 3 0 1 rfl, hs 3 0 2 rfl, hs 3 0 3 rfl]
  refine ⟨h.1, h.2.1, h.2.2.1, fun i hi => ?_⟩
  rw [hs 10 0 i rfl]
  exact h.2.2.2 i hi
theorem DM_ms {M : Mem} {c i k : Nat} {v : Int32} (hc : scm c k = true) (h : DM M) : DM (ms M c i k v) := h.mm (Mm_ms Mm.rf hc)
/-- no such install; no such entitlement -/
def nti (M : Mem) (x : Int32) : Bool := !(btw x (nI 0) (M 3 0 1 - nI 1) && decide (M 17 0 (ix x) = 0))
def nte (M : Mem) (x : Int32) : Bool := !btw x (nI 0) (M 3 0 3 - nI 1)
def tM (M : Mem) (b : Bool) : Mem := ms M 3 0 0 (if b = true then nI 1 else nI 0)
theorem vz1 : vp_nar .boolean (nI 1) = nI 1 := by decide
theorem Mm_t {M M1 : Mem} {b : Bool} (h : Mm M M1) : Mm M (tM M1 b) := Mm_ms h rfl
theorem DM_t {M : Mem} {b : Bool} (h : DM M) : DM (tM M b) := h.mm (Mm_t Mm.rf)
theorem nti_Rg {M : Mem} {x : Int32} (hD : DM M) (h : nti M x = false) : Rg x 12 := by
  simp only [nti, Bool.not_eq_false', Bool.and_eq_true] at h
  have h1 := (btw_cnt hD.1 (by decide) x).mp h.1
  have h2 := hD.1.2
  exact ⟨h1.1, by have := h1.2; omega⟩
theorem nte_Rg {M : Mem} {x : Int32} (hD : DM M) (h : nte M x = false) : Rg x 5 := by
  simp only [nte, Bool.not_eq_false'] at h
  have h1 := (btw_cnt hD.2.2.1 (by decide) x).mp h
  have h2 := hD.2.2.1.2
  exact ⟨h1.1, by have := h1.2; omega⟩
def hv (a : Int32) : Nat → Int32
  | 0 => a
  | k + 1 => hv a k / nI 2
def isS (a : Int32) (b : Nat) : Bool := decide (hv a b - hv a b / nI 2 * nI 2 = nI 1)
def mim (M : Mem) (e i : Nat) : Int32 :=
  if isS (M 21 0 e) (ix (M 10 0 i)) = false then nI 112
  else if ¬ (M 25 0 e = -1) ∧ ¬ (M 25 0 e = M 16 0 i) then nI 111
  else if M 23 0 e < M 12 0 i ∨ (¬ (M 23 0 e ≤ M 12 0 i) ∧ M 18 0 e = 0) then nI 101
  else if (¬ (M 22 0 e ≤ M 11 0 i) ∧ M 18 0 e = 0) ∨ (¬ (M 11 0 i ≤ M 22 0 e) ∧ M 19 0 e = 0) then nI 118
  else nI 45
theorem mim_c (M : Mem) (e i : Nat) : narrow .char (.int (mim M e i)) = .int (mim M e i) := by
  unfold mim
  split
  · rfl
  · split
    · rfl
    · split
      · rfl
      · split <;> rfl
def fim (M : Mem) (e i : Nat) : Bool := decide (mim M e i = nI 45)
def cfm (M : Mem) (i : Nat) : Nat → Int32
  | 0 => nI 0
  | k + 1 => cfm M i k + (if fim M k i = true then nI 1 else nI 0)
def mfI (p v e d u c q : Int32) : Bool := btw p (nI 0) (nI 3) && btw v (nI 1) (nI 9) && btw e (nI 1) (nI 3) && btw d (nI 0) (nI 9) && btw u (nI 0) (nI 9) && btw c (nI 1) (nI 16) && btw q (nI 0) (nI 2)
def mfE (pr v ed m u po : Int32) : Bool := btw pr (nI 1) (nI 15) && btw v (nI 1) (nI 9) && btw ed (nI 1) (nI 3) && met m && btw u (nI 0) (nI 99) && btw po (-1) (nI 2)
def fillM (M : Mem) (i : Nat) (p v e d u c q : Int32) : Mem := ms (ms (ms (ms (ms (ms (ms M 10 0 i p) 11 0 i v) 12 0 i e) 13 0 i d) 14 0 i u) 15 0 i c) 16 0 i q
def fillN (M : Mem) (e : Nat) (pr v ed m u po : Int32) : Mem := ms (ms (ms (ms (ms (ms (ms (ms M 21 0 e pr) 22 0 e v) 23 0 e ed) 28 0 e m) 24 0 e u) 25 0 e po) 26 0 e (nI 1)) 27 0 e (nI 10)
def er (M : Mem) (G : Lng) (n : Nat) : Oc := okO (some (.int (nI 0))) (ms M 3 0 0 (nI n)) G
def nInstall (M : Mem) (G : Lng) (p v e d u c q : Int32) : Oc :=
  if mfI p v e d u c q = true then
    if M 3 0 2 = nI 6 ∨ M 3 0 1 = nI 12 then er M G 2
    else okO (some (.int (M 3 0 1))) (ms (ms (fillM (ms M 3 0 0 (nI 0)) (ix (M 3 0 1)) p v e d u c q) 3 0 2 (M 3 0 2 + nI 1)) 3 0 1 (M 3 0 1 + nI 1)) G
  else er M G 1
def nRetire (M : Mem) (G : Lng) (x : Int32) : Oc := if nti M x = true then er M G 1 else okO (some (.int (M 3 0 2 - nI 1))) (ms (ms (tM M false) 17 0 (ix x) (nI 1)) 3 0 2 (M 3 0 2 - nI 1)) G
def nMoveTo (M : Mem) (G : Lng) (x d u : Int32) : Oc := if nti M x = true then er M G 1 else if (btw d (nI 0) (nI 9) && btw u (nI 0) (nI 9)) = true then okO (some (.int (M 13 0 (ix x)))) (ms (ms (tM M false) 13 0 (ix x) d) 14 0 (ix x) u) G else okO (some (.int (nI 0))) (ms (tM M false) 3 0 0 (nI 2)) G
def nSetVersion (M : Mem) (G : Lng) (x d u : Int32) : Oc := if nti M x = true then er M G 1 else if (btw d (nI 1) (nI 9) && btw u (nI 1) (nI 3)) = true then okO (some (.int (M 11 0 (ix x)))) (ms (ms (tM M false) 11 0 (ix x) d) 12 0 (ix x) u) G else okO (some (.int (nI 0))) (ms (tM M false) 3 0 0 (nI 2)) G
def nSetPool (M : Mem) (G : Lng) (x d : Int32) : Oc := if nti M x = true then er M G 1 else if btw d (nI 0) (nI 2) = true then okO (some (.int (M 16 0 (ix x)))) (ms (tM M false) 16 0 (ix x) d) G else okO (some (.int (nI 0))) (ms (tM M false) 3 0 0 (nI 2)) G
def nEntitle (M : Mem) (G : Lng) (pr v ed m u po : Int32) : Oc :=
  if mfE pr v ed m u po = true then
    if M 3 0 3 = nI 5 then er M G 2
    else okO (some (.int (M 3 0 3))) (ms (fillN (tM M false) (ix (M 3 0 3)) pr v ed m u po) 3 0 3 (M 3 0 3 + nI 1)) G
  else er M G 1
def crm (M : Mem) (e : Nat) : Int32 := (if M 18 0 e = 0 then nI 0 else nI 1) + (if M 19 0 e = 0 then nI 0 else nI 1) + (if M 20 0 e = 0 then nI 0 else nI 1)
def nSetRights (M : Mem) (G : Lng) (x : Int32) (a b c : Bool) : Oc := if nte M x = true then er M G 1 else okO (some (.int (crm (tM M false) (ix x)))) (ms (ms (ms (tM M false) 18 0 (ix x) (bi a)) 19 0 (ix x) (bi b)) 20 0 (ix x) (bi c)) G
def nSetMinimum (M : Mem) (G : Lng) (x c : Int32) : Oc := if nte M x = true then er M G 1 else if btw c (nI 1) (nI 16) = true then (if tM M false 28 0 (ix x) = nI 99 then okO (some (.int (M 26 0 (ix x)))) (ms (tM M false) 26 0 (ix x) c) G else okO (some (.int (nI 0))) (ms (tM M false) 3 0 0 (nI 3)) G) else okO (some (.int (nI 0))) (ms (tM M false) 3 0 0 (nI 2)) G
def nSetPrice (M : Mem) (G : Lng) (x c : Int32) : Oc := if nte M x = true then er M G 1 else if btw c (nI 1) (nI 99) = true then okO (some (.int (M 27 0 (ix x)))) (ms (tM M false) 27 0 (ix x) c) G else okO (some (.int (nI 0))) (ms (tM M false) 3 0 0 (nI 2)) G
def nAddUnits (M : Mem) (G : Lng) (x c : Int32) : Oc := if nte M x = true then er M G 1 else if btw c (nI 1) (nI 99) = true then (if tM M false 24 0 (ix x) + c ≤ nI 999 then okO (some (.int (M 24 0 (ix x) + c))) (ms (tM M false) 24 0 (ix x) (M 24 0 (ix x) + c)) G else okO (some (.int (nI 0))) (ms (tM M false) 3 0 0 (nI 3)) G) else okO (some (.int (nI 0))) (ms (tM M false) 3 0 0 (nI 2)) G
def nUnits (M : Mem) (G : Lng) (x : Int32) : Oc := if nte M x = true then er M G 1 else okO (some (.int (M 24 0 (ix x)))) (tM M false) G
def nWhy (M : Mem) (G : Lng) (x y : Int32) : Oc := if nti M x = true then okO (some (.int (nI 112))) (ms M 3 0 0 (nI 1)) G else if nte M y = true then okO (some (.int (nI 112))) (ms (tM M false) 3 0 0 (nI 1)) G else okO (some (.int (mim (ms (tM M false) 3 0 0 (nI 0)) (ix y) (ix x)))) (ms (tM M false) 3 0 0 (nI 0)) G
theorem mo_3_1 {M : Mem} {x : Int32} : ms M 3 0 0 x 3 0 1 = M 3 0 1 := ms_o (by decide)
theorem mo_3_3 {M : Mem} {x : Int32} : ms M 3 0 0 x 3 0 3 = M 3 0 3 := ms_o (by decide)
theorem mo_10 {M : Mem} {i j k : Nat} {x : Int32} : ms M 10 i j x 3 0 k = M 3 0 k := ms_o (fun h => absurd h.1 (by decide))
theorem mo_11 {M : Mem} {i j k : Nat} {x : Int32} : ms M 11 i j x 3 0 k = M 3 0 k := ms_o (fun h => absurd h.1 (by decide))
theorem mo_12 {M : Mem} {i j k : Nat} {x : Int32} : ms M 12 i j x 3 0 k = M 3 0 k := ms_o (fun h => absurd h.1 (by decide))
theorem mo_13 {M : Mem} {i j k : Nat} {x : Int32} : ms M 13 i j x 3 0 k = M 3 0 k := ms_o (fun h => absurd h.1 (by decide))
theorem mo_14 {M : Mem} {i j k : Nat} {x : Int32} : ms M 14 i j x 3 0 k = M 3 0 k := ms_o (fun h => absurd h.1 (by decide))
theorem mo_15 {M : Mem} {i j k : Nat} {x : Int32} : ms M 15 i j x 3 0 k = M 3 0 k := ms_o (fun h => absurd h.1 (by decide))
theorem mo_16 {M : Mem} {i j k : Nat} {x : Int32} : ms M 16 i j x 3 0 k = M 3 0 k := ms_o (fun h => absurd h.1 (by decide))
theorem mo_21 {M : Mem} {i j k : Nat} {x : Int32} : ms M 21 i j x 3 0 k = M 3 0 k := ms_o (fun h => absurd h.1 (by decide))
theorem mo_22 {M : Mem} {i j k : Nat} {x : Int32} : ms M 22 i j x 3 0 k = M 3 0 k := ms_o (fun h => absurd h.1 (by decide))
theorem mo_23 {M : Mem} {i j k : Nat} {x : Int32} : ms M 23 i j x 3 0 k = M 3 0 k := ms_o (fun h => absurd h.1 (by decide))
theorem mo_24 {M : Mem} {i j k : Nat} {x : Int32} : ms M 24 i j x 3 0 k = M 3 0 k := ms_o (fun h => absurd h.1 (by decide))
theorem mo_25 {M : Mem} {i j k : Nat} {x : Int32} : ms M 25 i j x 3 0 k = M 3 0 k := ms_o (fun h => absurd h.1 (by decide))
theorem mo_26 {M : Mem} {i j k : Nat} {x : Int32} : ms M 26 i j x 3 0 k = M 3 0 k := ms_o (fun h => absurd h.1 (by decide))
theorem mo_27 {M : Mem} {i j k : Nat} {x : Int32} : ms M 27 i j x 3 0 k = M 3 0 k := ms_o (fun h => absurd h.1 (by decide))
theorem mo_28 {M : Mem} {i j k : Nat} {x : Int32} : ms M 28 i j x 3 0 k = M 3 0 k := ms_o (fun h => absurd h.1 (by decide))
theorem nte_t {M : Mem} {b : Bool} {x : Int32} : nte (tM M b) x = nte M x := by unfold nte tM; rw [ms_o (by decide)]
set_option maxHeartbeats 4000000 in
set_option maxRecDepth 100000 in
theorem c_X3_thrown {l : Launch} {w : Wo} {M : Mem} {G : Lng}  (hnt : l.stackTraces = false) (hw : WK w)  : CT l yX3_thrown [Cond.code yX3_thrown cX3_thrown 1 (some .int)] 1 0 0 w [.ref (w.1 (3, 0))] M G (okO (some (.int (M 3 0 0))) (M) G) := by
  refine CT_of hnt hw.1 mw_X3_thrown (by simp [Value.category]) (Nat.le_of_ble_eq_true rfl) (fun p e s m args below meth c X => ?_)
  refine r_aload_n X dX3_thrown_0 (i := 0) rfl rfl ?_
  refine r_get X kc3 (j := 0) (hw.2 _ _ (by first | decide | (simp [cnt] <;> omega))) ev3 (by decide) rfl fl_X3_78 dX3_thrown_1 ?_
  refine r_iret X dX3_thrown_4 (by first | decide | (simp only [rmv]; omega)) (by first | decide | (simp only [rmv]; omega)) ?_
  first | with_reducible rfl | (simp []; done) | contradiction | with_reducible assumption

set_option maxHeartbeats 4000000 in
set_option maxRecDepth 100000 in
theorem c_X3_fail {l : Launch} {w : Wo} {M : Mem} {G : Lng} {x : Int32} (hnt : l.stackTraces = false) (hw : WK w)  : CT l yX3_fail [Cond.code yX3_fail cX3_fail 2 (some .int)] 1 0 0 w [.ref (w.1 (3, 0)), .int x] M G (okO (some (.int (nI 0))) (ms M 3 0 0 x) G) := by
  refine CT_of hnt hw.1 mw_X3_fail (by simp [Value.category]) (Nat.le_of_ble_eq_true rfl) (fun p e s m args below meth c X => ?_)
  refine r_aload_n X dX3_fail_0 (i := 0) rfl rfl ?_
  refine r_iload_n X dX3_fail_1 (i := 1) rfl rfl ?_
  refine r_put X kc3 (j := 0) (hw.2 _ _ (by first | decide | (simp [cnt] <;> omega))) ev3 (by decide) (Nat.le_of_ble_eq_true rfl) fl_X3_78 rfl rfl rfl dX3_fail_2 es_3_0 ?_
  refine r_iconst X dX3_fail_5 (v := nI 0) (by decide) ?_
  refine r_iret X dX3_fail_6 (by first | decide | (simp only [rmv]; omega)) (by first | decide | (simp only [rmv]; omega)) ?_
  first | with_reducible rfl | (simp []; done) | contradiction | with_reducible assumption

set_option maxHeartbeats 4000000 in
set_option maxRecDepth 100000 in
theorem c_X3_isIn {l : Launch} {w : Wo} {M : Mem} {G : Lng} {a b c9 : Int32} (hnt : l.stackTraces = false) (hw : WK w)  : CT l yX3_isIn [Cond.code yX3_isIn cX3_isIn 3 (some .boolean)] 1 0 0 w [.int a, .int b, .int c9] M G (okO (some (.int (bi (btw a b c9)))) (M) G) := by
  refine CT_of hnt hw.1 mw_X3_isIn (by simp [Value.category]) (Nat.le_of_ble_eq_true rfl) (fun p e s m args below meth c X => ?_)
  refine r_iload_n X dX3_isIn_0 (i := 0) rfl rfl ?_
  refine r_iload_n X dX3_isIn_1 (i := 1) rfl rfl ?_
  first | with_reducible refine r_icmpn_lt X dX3_isIn_2 (tgt := 14) (by decide) (by omega) (by omega) (fun h1 => ?_) (fun h1 => ?_) | refine r_icmp_lt X dX3_isIn_2 (tgt := 14) (by decide) (fun h1 => ?_) (fun h1 => ?_)
  · refine r_iconst X dX3_isIn_14 (v := nI 0) (by decide) ?_
    refine r_zret X dX3_isIn_15 (by first | decide | (simp only [rmv]; omega)) (by first | decide | (simp only [rmv]; omega)) (by with_reducible rfl) ?_
    first | with_reducible rfl | (simp [btw, bi_f, bi_t, h1]; done) | contradiction
  · refine r_iload_n X dX3_isIn_5 (i := 0) rfl rfl ?_
    refine r_iload_n X dX3_isIn_6 (i := 2) rfl rfl ?_
    first | with_reducible refine r_icmpn_gt X dX3_isIn_7 (tgt := 14) (by decide) (by omega) (by omega) (fun h2 => ?_) (fun h2 => ?_) | refine r_icmp_gt X dX3_isIn_7 (tgt := 14) (by decide) (fun h2 => ?_) (fun h2 => ?_)
    · refine r_iconst X dX3_isIn_14 (v := nI 0) (by decide) ?_
      refine r_zret X dX3_isIn_15 (by first | decide | (simp only [rmv]; omega)) (by first | decide | (simp only [rmv]; omega)) (by with_reducible rfl) ?_
      first | with_reducible rfl | (simp [btw, bi_f, bi_t, h1, h2]; done) | contradiction
    · refine r_iconst X dX3_isIn_10 (v := nI 1) (by decide) ?_
      refine r_goto X dX3_isIn_11 (tgt := 15) (by decide) ?_
      refine r_zret X dX3_isIn_15 (by first | decide | (simp only [rmv]; omega)) (by first | decide | (simp only [rmv]; omega)) (by with_reducible rfl) ?_
      first | with_reducible rfl | (simp [btw, bi_f, bi_t, h1, h2]; done) | contradiction

set_option maxHeartbeats 4000000 in
set_option maxRecDepth 100000 in
theorem c_X3_isThere {l : Launch} {w : Wo} {M : Mem} {G : Lng} {x : Int32} (hnt : l.stackTraces = false) (hw : WK w) (hD : DM M) : CT l yX3_isThere [Cond.code yX3_isThere cX3_isThere 2 (some .boolean)] 2 0 0 w [.ref (w.1 (3, 0)), .int x] M G (okO (some (.int (bi (!nti M x)))) (M) G) := by
  refine CT_of hnt hw.1 mw_X3_isThere (by simp [Value.category]) (Nat.le_of_ble_eq_true rfl) (fun p e s m args below meth c X => ?_)
  refine r_iload_n X dX3_isThere_0 (i := 1) rfl rfl ?_
  refine r_iconst X dX3_isThere_1 (v := nI 0) (by decide) ?_
  refine r_aload_n X dX3_isThere_2 (i := 0) rfl rfl ?_
  refine r_get X kc3 (j := 1) (hw.2 _ _ (by first | decide | (simp [cnt] <;> omega))) ev3 (by decide) rfl fl_X3_100 dX3_isThere_3 ?_
  refine r_iconst X dX3_isThere_6 (v := nI 1) (by decide) ?_
  refine r_isub X dX3_isThere_7 ?_
  refine r_callS X (c_X3_isIn hnt hw ) mw_X3_isIn mi_X3_isIn ml_X3_89 rfl rfl (Nat.le_of_ble_eq_true rfl) (by first | decide | (simp only [rmv]; omega)) (by first | decide | (simp only [rmv]; omega)) (by first | decide | (simp only [rmv]; omega)) (by first | decide | (simp only [rmv]; omega)) dX3_isThere_8 (ko1 ?_)
  first | with_reducible refine r_ifb_eq X dX3_isThere_11 (tgt := 27) (by decide) (fun h1 => ?_) (fun h1 => ?_) | refine r_if_eq X dX3_isThere_11 (tgt := 27) (by decide) (fun h1 => ?_) (fun h1 => ?_)
  · refine r_iconst X dX3_isThere_27 (v := nI 0) (by decide) ?_
    refine r_zret X dX3_isThere_28 (by first | decide | (simp only [rmv]; omega)) (by first | decide | (simp only [rmv]; omega)) (by with_reducible rfl) ?_
    first | with_reducible rfl | (simp [nti, bi_f, bi_t, h1]; done) | contradiction
  · have hr := (btw_cnt hD.1 (by decide) x).mp h1
    have hx1 := hr.1
    have hx2 := hr.2
    have hx3 := hD.1.2
    refine r_aload_n X dX3_isThere_14 (i := 0) rfl rfl ?_
    refine r_get X kc3 (j := 13) (hw.2 _ _ (by first | decide | (simp [cnt] <;> omega))) ev3 (by decide) rfl fl_X3_31 dX3_isThere_15 ?_
    refine r_iload_n X dX3_isThere_18 (i := 1) rfl rfl ?_
    refine r_zald X (hw.2 _ _ (by first | decide | (simp [cnt] <;> omega))) (evA (by decide) (by decide)) (by first | with_reducible rfl | with_reducible assumption | (rw [pk_mul, nI_add])) (by first | with_reducible assumption | (simp [alen] <;> omega)) (by decide) dX3_isThere_19 ?_
    first | with_reducible refine r_ifb_ne X dX3_isThere_20 (tgt := 27) (by decide) (fun h2 => ?_) (fun h2 => ?_) | refine r_if_ne X dX3_isThere_20 (tgt := 27) (by decide) (fun h2 => ?_) (fun h2 => ?_)
    · refine r_iconst X dX3_isThere_27 (v := nI 0) (by decide) ?_
      refine r_zret X dX3_isThere_28 (by first | decide | (simp only [rmv]; omega)) (by first | decide | (simp only [rmv]; omega)) (by with_reducible rfl) ?_
      first | with_reducible rfl | (simp [nti, bi_f, bi_t, h1, h2]; done) | contradiction
    · refine r_iconst X dX3_isThere_23 (v := nI 1) (by decide) ?_
      refine r_goto X dX3_isThere_24 (tgt := 28) (by decide) ?_
      refine r_zret X dX3_isThere_28 (by first | decide | (simp only [rmv]; omega)) (by first | decide | (simp only [rmv]; omega)) (by with_reducible rfl) ?_
      first | with_reducible rfl | (simp [nti, bi_f, bi_t, h1, h2]; done) | contradiction

set_option maxHeartbeats 4000000 in
set_option maxRecDepth 100000 in
theorem c_X3_noInstall {l : Launch} {w : Wo} {M : Mem} {G : Lng} {x : Int32} (hnt : l.stackTraces = false) (hw : WK w) (hD : DM M) : CT l yX3_noInstall [Cond.code yX3_noInstall cX3_noInstall 2 (some .boolean)] 3 0 0 w [.ref (w.1 (3, 0)), .int x] M G (okO (some (.int (bi (nti M x)))) (tM M (nti M x)) G) := by
  refine CT_of hnt hw.1 mw_X3_noInstall (by simp [Value.category]) (Nat.le_of_ble_eq_true rfl) (fun p e s m args below meth c X => ?_)
  refine r_aload_n X dX3_noInstall_0 (i := 0) rfl rfl ?_
  refine r_aload_n X dX3_noInstall_1 (i := 0) rfl rfl ?_
  refine r_iload_n X dX3_noInstall_2 (i := 1) rfl rfl ?_
  refine r_callV X (c_X3_isThere hnt hw (by first | with_reducible assumption | with_reducible rfl | omega | (with_reducible (repeat (first | assumption | refine DM_t ?_ | refine DM_ms rfl ?_)); done))) mw_X3_isThere kc3 mi_X3_isThere (hw.2 _ _ (by first | decide | (simp [cnt] <;> omega))) ev3 ml_X3_82 rfl rfl (Nat.le_of_ble_eq_true rfl) (by first | decide | (simp only [rmv]; omega)) (by first | decide | (simp only [rmv]; omega)) (by first | decide | (simp only [rmv]; omega)) (by first | decide | (simp only [rmv]; omega)) dX3_noInstall_3 (ko1 ?_)
  first | with_reducible refine r_ifb_eq X dX3_noInstall_6 (tgt := 13) (by decide) (fun h1 => ?_) (fun h1 => ?_) | refine r_if_eq X dX3_noInstall_6 (tgt := 13) (by decide) (fun h1 => ?_) (fun h1 => ?_)
  · have hq : nti M x = true := by simpa using h1
    refine r_iconst X dX3_noInstall_13 (v := nI 1) (by decide) ?_
    refine r_put X kc3 (j := 0) (hw.2 _ _ (by first | decide | (simp [cnt] <;> omega))) ev3 (by decide) (Nat.le_of_ble_eq_true rfl) fl_X3_78 rfl rfl rfl dX3_noInstall_14 es_3_0 ?_
    refine r_aload_n X dX3_noInstall_17 (i := 0) rfl rfl ?_
    refine r_get X kc3 (j := 0) (hw.2 _ _ (by first | decide | (simp [cnt] <;> omega))) ev3 (by decide) rfl fl_X3_78 dX3_noInstall_18 ?_
    rw [ms_s]
    first | with_reducible refine r_ifb_eq X dX3_noInstall_21 (tgt := 28) (by decide) (fun h2 => ?_) (fun h2 => ?_) | refine r_if_eq X dX3_noInstall_21 (tgt := 28) (by decide) (fun h2 => ?_) (fun h2 => ?_)
    · refine r_iconst X dX3_noInstall_28 (v := nI 0) (by decide) ?_
      first | exact absurd (by decide) h2 | exact absurd h2 (by decide) | (refine r_zret X dX3_noInstall_29 (by decide) (by decide) (b := nti M x) (by rw [hq]; rfl) (by rw [hq]; rfl))
    · refine r_iconst X dX3_noInstall_24 (v := nI 1) (by decide) ?_
      refine r_goto X dX3_noInstall_25 (tgt := 29) (by decide) ?_
      first | exact absurd (by decide) h2 | exact absurd h2 (by decide) | (refine r_zret X dX3_noInstall_29 (by decide) (by decide) (b := nti M x) (by rw [hq]; rfl) (by rw [hq]; rfl))
  · have hq : nti M x = false := by simpa using h1
    refine r_iconst X dX3_noInstall_9 (v := nI 0) (by decide) ?_
    refine r_goto X dX3_noInstall_10 (tgt := 14) (by decide) ?_
    refine r_put X kc3 (j := 0) (hw.2 _ _ (by first | decide | (simp [cnt] <;> omega))) ev3 (by decide) (Nat.le_of_ble_eq_true rfl) fl_X3_78 rfl rfl rfl dX3_noInstall_14 es_3_0 ?_
    refine r_aload_n X dX3_noInstall_17 (i := 0) rfl rfl ?_
    refine r_get X kc3 (j := 0) (hw.2 _ _ (by first | decide | (simp [cnt] <;> omega))) ev3 (by decide) rfl fl_X3_78 dX3_noInstall_18 ?_
    rw [ms_s]
    first | with_reducible refine r_ifb_eq X dX3_noInstall_21 (tgt := 28) (by decide) (fun h3 => ?_) (fun h3 => ?_) | refine r_if_eq X dX3_noInstall_21 (tgt := 28) (by decide) (fun h3 => ?_) (fun h3 => ?_)
    · refine r_iconst X dX3_noInstall_28 (v := nI 0) (by decide) ?_
      first | exact absurd (by decide) h3 | exact absurd h3 (by decide) | (refine r_zret X dX3_noInstall_29 (by decide) (by decide) (b := nti M x) (by rw [hq]; rfl) (by rw [hq]; rfl))
    · refine r_iconst X dX3_noInstall_24 (v := nI 1) (by decide) ?_
      refine r_goto X dX3_noInstall_25 (tgt := 29) (by decide) ?_
      first | exact absurd (by decide) h3 | exact absurd h3 (by decide) | (refine r_zret X dX3_noInstall_29 (by decide) (by decide) (b := nti M x) (by rw [hq]; rfl) (by rw [hq]; rfl))

set_option maxHeartbeats 4000000 in
set_option maxRecDepth 100000 in
theorem c_X3_noEntitlement {l : Launch} {w : Wo} {M : Mem} {G : Lng} {x : Int32} (hnt : l.stackTraces = false) (hw : WK w)  : CT l yX3_noEntitlement [Cond.code yX3_noEntitlement cX3_noEntitlement 2 (some .boolean)] 3 0 0 w [.ref (w.1 (3, 0)), .int x] M G (okO (some (.int (bi (nte M x)))) (tM M (nte M x)) G) := by
  refine CT_of hnt hw.1 mw_X3_noEntitlement (by simp [Value.category]) (Nat.le_of_ble_eq_true rfl) (fun p e s m args below meth c X => ?_)
  refine r_aload_n X dX3_noEntitlement_0 (i := 0) rfl rfl ?_
  refine r_iload_n X dX3_noEntitlement_1 (i := 1) rfl rfl ?_
  refine r_iconst X dX3_noEntitlement_2 (v := nI 0) (by decide) ?_
  refine r_aload_n X dX3_noEntitlement_3 (i := 0) rfl rfl ?_
  refine r_get X kc3 (j := 3) (hw.2 _ _ (by first | decide | (simp [cnt] <;> omega))) ev3 (by decide) rfl fl_X3_86 dX3_noEntitlement_4 ?_
  refine r_iconst X dX3_noEntitlement_7 (v := nI 1) (by decide) ?_
  refine r_isub X dX3_noEntitlement_8 ?_
  refine r_callS X (c_X3_isIn hnt hw ) mw_X3_isIn mi_X3_isIn ml_X3_89 rfl rfl (Nat.le_of_ble_eq_true rfl) (by first | decide | (simp only [rmv]; omega)) (by first | decide | (simp only [rmv]; omega)) (by first | decide | (simp only [rmv]; omega)) (by first | decide | (simp only [rmv]; omega)) dX3_noEntitlement_9 (ko1 ?_)
  first | with_reducible refine r_ifb_eq X dX3_noEntitlement_12 (tgt := 19) (by decide) (fun h1 => ?_) (fun h1 => ?_) | refine r_if_eq X dX3_noEntitlement_12 (tgt := 19) (by decide) (fun h1 => ?_) (fun h1 => ?_)
  · have hq : nte M x = true := by simp [nte, h1]
    refine r_iconst X dX3_noEntitlement_19 (v := nI 1) (by decide) ?_
    refine r_put X kc3 (j := 0) (hw.2 _ _ (by first | decide | (simp [cnt] <;> omega))) ev3 (by decide) (Nat.le_of_ble_eq_true rfl) fl_X3_78 rfl rfl rfl dX3_noEntitlement_20 es_3_0 ?_
    refine r_aload_n X dX3_noEntitlement_23 (i := 0) rfl rfl ?_
    refine r_get X kc3 (j := 0) (hw.2 _ _ (by first | decide | (simp [cnt] <;> omega))) ev3 (by decide) rfl fl_X3_78 dX3_noEntitlement_24 ?_
    rw [ms_s]
    first | with_reducible refine r_ifb_eq X dX3_noEntitlement_27 (tgt := 34) (by decide) (fun h2 => ?_) (fun h2 => ?_) | refine r_if_eq X dX3_noEntitlement_27 (tgt := 34) (by decide) (fun h2 => ?_) (fun h2 => ?_)
    · refine r_iconst X dX3_noEntitlement_34 (v := nI 0) (by decide) ?_
      first | exact absurd (by decide) h2 | exact absurd h2 (by decide) | (refine r_zret X dX3_noEntitlement_35 (by decide) (by decide) (b := nte M x) (by rw [hq]; rfl) (by rw [hq]; rfl))
    · refine r_iconst X dX3_noEntitlement_30 (v := nI 1) (by decide) ?_
      refine r_goto X dX3_noEntitlement_31 (tgt := 35) (by decide) ?_
      first | exact absurd (by decide) h2 | exact absurd h2 (by decide) | (refine r_zret X dX3_noEntitlement_35 (by decide) (by decide) (b := nte M x) (by rw [hq]; rfl) (by rw [hq]; rfl))
  · have hq : nte M x = false := by simp [nte, h1]
    refine r_iconst X dX3_noEntitlement_15 (v := nI 0) (by decide) ?_
    refine r_goto X dX3_noEntitlement_16 (tgt := 20) (by decide) ?_
    refine r_put X kc3 (j := 0) (hw.2 _ _ (by first | decide | (simp [cnt] <;> omega))) ev3 (by decide) (Nat.le_of_ble_eq_true rfl) fl_X3_78 rfl rfl rfl dX3_noEntitlement_20 es_3_0 ?_
    refine r_aload_n X dX3_noEntitlement_23 (i := 0) rfl rfl ?_
    refine r_get X kc3 (j := 0) (hw.2 _ _ (by first | decide | (simp [cnt] <;> omega))) ev3 (by decide) rfl fl_X3_78 dX3_noEntitlement_24 ?_
    rw [ms_s]
    first | with_reducible refine r_ifb_eq X dX3_noEntitlement_27 (tgt := 34) (by decide) (fun h3 => ?_) (fun h3 => ?_) | refine r_if_eq X dX3_noEntitlement_27 (tgt := 34) (by decide) (fun h3 => ?_) (fun h3 => ?_)
    · refine r_iconst X dX3_noEntitlement_34 (v := nI 0) (by decide) ?_
      first | exact absurd (by decide) h3 | exact absurd h3 (by decide) | (refine r_zret X dX3_noEntitlement_35 (by decide) (by decide) (b := nte M x) (by rw [hq]; rfl) (by rw [hq]; rfl))
    · refine r_iconst X dX3_noEntitlement_30 (v := nI 1) (by decide) ?_
      refine r_goto X dX3_noEntitlement_31 (tgt := 35) (by decide) ?_
      first | exact absurd (by decide) h3 | exact absurd h3 (by decide) | (refine r_zret X dX3_noEntitlement_35 (by decide) (by decide) (b := nte M x) (by rw [hq]; rfl) (by rw [hq]; rfl))

set_option maxHeartbeats 4000000 in
set_option maxRecDepth 100000 in
theorem lp_isSet {p : Program} {l : Launch} {e : Env} {s : State} {m : MethodId} {args : Array Value} {below : List Frame} {meth : Method} {c : Code} {w : Wo} {M : Mem} {G : Lng} {a : Int32} {b : Nat} (hnt : l.stackTraces = false) (hw : WK w) (X : Cx p l (rmv 1 0 0) s m args meth c cX3_isSet 4 yX3_isSet.cls (some .boolean) [] w) (hb : b < 2 ^ 20) : ∀ (n k : Nat), k + n = b → VE p l e (rmv 1 0 0) s m args below meth c (0) (0) (QV w (okO (some (.int (bi (isS a b)))) (M) G) below args s 0 0) 4 w 4 [some (.int a), some (.int (nI b)), some (.int (hv a k)), some (.int (nI k))] [] (ev w (M) (G)) := by
  intro n
  induction n with
  | zero =>
    intro k hk
    refine r_iload_n X dX3_isSet_4 (i := 3) rfl rfl ?_
    refine r_iload_n X dX3_isSet_5 (i := 1) rfl rfl ?_
    first | with_reducible refine r_icmpn_ge X dX3_isSet_6 (tgt := 19) (by decide) (by omega) (by omega) (fun h1 => ?_) (fun h1 => ?_) | refine r_icmp_ge X dX3_isSet_6 (tgt := 19) (by decide) (fun h1 => ?_) (fun h1 => ?_)
    · refine r_iload_n X dX3_isSet_19 (i := 2) rfl rfl ?_
      refine r_iconst X dX3_isSet_20 (v := nI 2) (by decide) ?_
      refine r_irem X dX3_isSet_21 (by decide) ?_
      refine r_iconst X dX3_isSet_22 (v := nI 1) (by decide) ?_
      first | with_reducible refine r_icmpn_ne X dX3_isSet_23 (tgt := 30) (by decide) (by omega) (by omega) (fun h2 => ?_) (fun h2 => ?_) | refine r_icmp_ne X dX3_isSet_23 (tgt := 30) (by decide) (fun h2 => ?_) (fun h2 => ?_)
      · refine r_iconst X dX3_isSet_30 (v := nI 0) (by decide) ?_
        refine r_zret X dX3_isSet_31 (by first | decide | (simp only [rmv]; omega)) (by first | decide | (simp only [rmv]; omega)) (by with_reducible rfl) ?_
        first | with_reducible rfl | (((have hkb : k = b := by omega); subst hkb; simp [isS, bi_t, bi_f, h1, h2]); done) | contradiction
      · refine r_iconst X dX3_isSet_26 (v := nI 1) (by decide) ?_
        refine r_goto X dX3_isSet_27 (tgt := 31) (by decide) ?_
        refine r_zret X dX3_isSet_31 (by first | decide | (simp only [rmv]; omega)) (by first | decide | (simp only [rmv]; omega)) (by with_reducible rfl) ?_
        first | with_reducible rfl | (((have hkb : k = b := by omega); subst hkb; simp [isS, bi_t, bi_f, h1, h2]); done) | contradiction
    · exact absurd h1 (by omega)
  | succ n ih =>
    intro k hk
    refine r_iload_n X dX3_isSet_4 (i := 3) rfl rfl ?_
    refine r_iload_n X dX3_isSet_5 (i := 1) rfl rfl ?_
    first | with_reducible refine r_icmpn_ge X dX3_isSet_6 (tgt := 19) (by decide) (by omega) (by omega) (fun h1 => ?_) (fun h1 => ?_) | refine r_icmp_ge X dX3_isSet_6 (tgt := 19) (by decide) (fun h1 => ?_) (fun h1 => ?_)
    · exact absurd h1 (by omega)
    · refine r_iload_n X dX3_isSet_9 (i := 2) rfl rfl ?_
      refine r_iconst X dX3_isSet_10 (v := nI 2) (by decide) ?_
      refine r_idiv X dX3_isSet_11 (by decide) ?_
      refine r_istore_n X dX3_isSet_12 (i := 2) rfl (by decide) rfl ?_
      first | with_reducible refine r_iincn X dX3_isSet_13 rfl (by decide) rfl ?_ | refine r_iinc1 X dX3_isSet_13 rfl (by decide) rfl ?_
      refine r_goto X dX3_isSet_16 (tgt := 4) (by decide) ?_
      exact ih (k + 1) (by omega)

set_option maxHeartbeats 4000000 in
set_option maxRecDepth 100000 in
theorem c_X3_isSet {l : Launch} {w : Wo} {M : Mem} {G : Lng} {a x : Int32} {b : Nat} (hnt : l.stackTraces = false) (hw : WK w) (hx : x = nI b) (hb : b < 2 ^ 20) : CT l yX3_isSet [Cond.code yX3_isSet cX3_isSet 4 (some .boolean)] 1 0 0 w [.int a, .int x] M G (okO (some (.int (bi (isS a b)))) (M) G) := by
  refine CT_of hnt hw.1 mw_X3_isSet (by simp [Value.category]) (Nat.le_of_ble_eq_true rfl) (fun p e s m args below meth c X => ?_)
  subst hx
  refine r_iload_n X dX3_isSet_0 (i := 0) rfl rfl ?_
  refine r_istore_n X dX3_isSet_1 (i := 2) rfl (by decide) rfl ?_
  refine r_iconst X dX3_isSet_2 (v := nI 0) (by decide) ?_
  refine r_istore_n X dX3_isSet_3 (i := 3) rfl (by decide) rfl ?_
  exact lp_isSet hnt hw X hb b 0 (by omega)

set_option maxHeartbeats 4000000 in
set_option maxRecDepth 100000 in
theorem c_X3_reasonOf {l : Launch} {w : Wo} {M : Mem} {G : Lng} {x y : Int32} {i e9 : Nat} (hnt : l.stackTraces = false) (hw : WK w) (hD : DM M) (hx : x = nI i) (hi : i < 12) (hy : y = nI e9) (he : e9 < 5) : CT l yX3_reasonOf [Cond.code yX3_reasonOf cX3_reasonOf 3 (some .char)] 2 0 0 w [.ref (w.1 (3, 0)), .int x, .int y] M G (okO (some (.int (mim M e9 i))) (M) G) := by
  refine CT_of hnt hw.1 mw_X3_reasonOf (by simp [Value.category]) (Nat.le_of_ble_eq_true rfl) (fun p e s m args below meth c X => ?_)
  subst hx
  subst hy
  have hp1 := (hD.2.2.2 i hi).1
  have hp2 := (hD.2.2.2 i hi).2
  refine r_aload_n X dX3_reasonOf_0 (i := 0) rfl rfl ?_
  refine r_get X kc3 (j := 17) (hw.2 _ _ (by first | decide | (simp [cnt] <;> omega))) ev3 (by decide) rfl fl_X3_44 dX3_reasonOf_1 ?_
  refine r_iload_n X dX3_reasonOf_4 (i := 2) rfl rfl ?_
  refine r_iald X (hw.2 _ _ (by first | decide | (simp [cnt] <;> omega))) (evA (by decide) (by decide)) (by first | with_reducible rfl | with_reducible assumption | (rw [pk_mul, nI_add])) (by first | with_reducible assumption | (simp [alen] <;> omega)) (by decide) dX3_reasonOf_5 ?_
  refine r_aload_n X dX3_reasonOf_6 (i := 0) rfl rfl ?_
  refine r_get X kc3 (j := 6) (hw.2 _ _ (by first | decide | (simp [cnt] <;> omega))) ev3 (by decide) rfl fl_X3_7 dX3_reasonOf_7 ?_
  refine r_iload_n X dX3_reasonOf_10 (i := 1) rfl rfl ?_
  refine r_iald X (hw.2 _ _ (by first | decide | (simp [cnt] <;> omega))) (evA (by decide) (by decide)) (by first | with_reducible rfl | with_reducible assumption | (rw [pk_mul, nI_add])) (by first | with_reducible assumption | (simp [alen] <;> omega)) (by decide) dX3_reasonOf_11 ?_
  refine r_callS X (c_X3_isSet hnt hw (by first | with_reducible assumption | with_reducible rfl | omega | (with_reducible (repeat (first | assumption | refine DM_t ?_ | refine DM_ms rfl ?_)); done)) (by first | with_reducible assumption | with_reducible rfl | omega | (with_reducible (repeat (first | assumption | refine DM_t ?_ | refine DM_ms rfl ?_)); done))) mw_X3_isSet mi_X3_isSet ml_X3_109 rfl rfl (Nat.le_of_ble_eq_true rfl) (by first | decide | (simp only [rmv]; omega)) (by first | decide | (simp only [rmv]; omega)) (by first | decide | (simp only [rmv]; omega)) (by first | decide | (simp only [rmv]; omega)) dX3_reasonOf_12 (ko1 ?_)
  first | with_reducible refine r_ifb_ne X dX3_reasonOf_15 (tgt := 21) (by decide) (fun h1 => ?_) (fun h1 => ?_) | refine r_if_ne X dX3_reasonOf_15 (tgt := 21) (by decide) (fun h1 => ?_) (fun h1 => ?_)
  · refine r_aload_n X dX3_reasonOf_21 (i := 0) rfl rfl ?_
    refine r_get X kc3 (j := 21) (hw.2 _ _ (by first | decide | (simp [cnt] <;> omega))) ev3 (by decide) rfl fl_X3_56 dX3_reasonOf_22 ?_
    refine r_iload_n X dX3_reasonOf_25 (i := 2) rfl rfl ?_
    refine r_iald X (hw.2 _ _ (by first | decide | (simp [cnt] <;> omega))) (evA (by decide) (by decide)) (by first | with_reducible rfl | with_reducible assumption | (rw [pk_mul, nI_add])) (by first | with_reducible assumption | (simp [alen] <;> omega)) (by decide) dX3_reasonOf_26 ?_
    refine r_iconst X dX3_reasonOf_27 (v := -1) (by decide) ?_
    first | with_reducible refine r_icmpn_eq X dX3_reasonOf_28 (tgt := 49) (by decide) (by omega) (by omega) (fun h2 => ?_) (fun h2 => ?_) | refine r_icmp_eq X dX3_reasonOf_28 (tgt := 49) (by decide) (fun h2 => ?_) (fun h2 => ?_)
    · refine r_aload_n X dX3_reasonOf_49 (i := 0) rfl rfl ?_
      refine r_get X kc3 (j := 8) (hw.2 _ _ (by first | decide | (simp [cnt] <;> omega))) ev3 (by decide) rfl fl_X3_16 dX3_reasonOf_50 ?_
      refine r_iload_n X dX3_reasonOf_53 (i := 1) rfl rfl ?_
      refine r_iald X (hw.2 _ _ (by first | decide | (simp [cnt] <;> omega))) (evA (by decide) (by decide)) (by first | with_reducible rfl | with_reducible assumption | (rw [pk_mul, nI_add])) (by first | with_reducible assumption | (simp [alen] <;> omega)) (by decide) dX3_reasonOf_54 ?_
      refine r_aload_n X dX3_reasonOf_55 (i := 0) rfl rfl ?_
      refine r_get X kc3 (j := 19) (hw.2 _ _ (by first | decide | (simp [cnt] <;> omega))) ev3 (by decide) rfl fl_X3_50 dX3_reasonOf_56 ?_
      refine r_iload_n X dX3_reasonOf_59 (i := 2) rfl rfl ?_
      refine r_iald X (hw.2 _ _ (by first | decide | (simp [cnt] <;> omega))) (evA (by decide) (by decide)) (by first | with_reducible rfl | with_reducible assumption | (rw [pk_mul, nI_add])) (by first | with_reducible assumption | (simp [alen] <;> omega)) (by decide) dX3_reasonOf_60 ?_
      first | with_reducible refine r_icmpn_gt X dX3_reasonOf_61 (tgt := 88) (by decide) (by omega) (by omega) (fun h3 => ?_) (fun h3 => ?_) | refine r_icmp_gt X dX3_reasonOf_61 (tgt := 88) (by decide) (fun h3 => ?_) (fun h3 => ?_)
      · refine r_bipush X dX3_reasonOf_88 (v := nI 101) (by decide) ?_
        refine r_cret X dX3_reasonOf_90 (by first | with_reducible exact mis_c _ _ _ | rfl | assumption) (by first | decide | (simp only [rmv]; omega)) (by first | decide | (simp only [rmv]; omega)) ?_
        first | with_reducible rfl | (simp [mim, h1, h2, h3]; done) | contradiction
      · refine r_aload_n X dX3_reasonOf_64 (i := 0) rfl rfl ?_
        refine r_get X kc3 (j := 8) (hw.2 _ _ (by first | decide | (simp [cnt] <;> omega))) ev3 (by decide) rfl fl_X3_16 dX3_reasonOf_65 ?_
        refine r_iload_n X dX3_reasonOf_68 (i := 1) rfl rfl ?_
        refine r_iald X (hw.2 _ _ (by first | decide | (simp [cnt] <;> omega))) (evA (by decide) (by decide)) (by first | with_reducible rfl | with_reducible assumption | (rw [pk_mul, nI_add])) (by first | with_reducible assumption | (simp [alen] <;> omega)) (by decide) dX3_reasonOf_69 ?_
        refine r_aload_n X dX3_reasonOf_70 (i := 0) rfl rfl ?_
        refine r_get X kc3 (j := 19) (hw.2 _ _ (by first | decide | (simp [cnt] <;> omega))) ev3 (by decide) rfl fl_X3_50 dX3_reasonOf_71 ?_
        refine r_iload_n X dX3_reasonOf_74 (i := 2) rfl rfl ?_
        refine r_iald X (hw.2 _ _ (by first | decide | (simp [cnt] <;> omega))) (evA (by decide) (by decide)) (by first | with_reducible rfl | with_reducible assumption | (rw [pk_mul, nI_add])) (by first | with_reducible assumption | (simp [alen] <;> omega)) (by decide) dX3_reasonOf_75 ?_
        first | with_reducible refine r_icmpn_ge X dX3_reasonOf_76 (tgt := 91) (by decide) (by omega) (by omega) (fun h4 => ?_) (fun h4 => ?_) | refine r_icmp_ge X dX3_reasonOf_76 (tgt := 91) (by decide) (fun h4 => ?_) (fun h4 => ?_)
        · refine r_aload_n X dX3_reasonOf_91 (i := 0) rfl rfl ?_
          refine r_get X kc3 (j := 7) (hw.2 _ _ (by first | decide | (simp [cnt] <;> omega))) ev3 (by decide) rfl fl_X3_13 dX3_reasonOf_92 ?_
          refine r_iload_n X dX3_reasonOf_95 (i := 1) rfl rfl ?_
          refine r_iald X (hw.2 _ _ (by first | decide | (simp [cnt] <;> omega))) (evA (by decide) (by decide)) (by first | with_reducible rfl | with_reducible assumption | (rw [pk_mul, nI_add])) (by first | with_reducible assumption | (simp [alen] <;> omega)) (by decide) dX3_reasonOf_96 ?_
          refine r_aload_n X dX3_reasonOf_97 (i := 0) rfl rfl ?_
          refine r_get X kc3 (j := 18) (hw.2 _ _ (by first | decide | (simp [cnt] <;> omega))) ev3 (by decide) rfl fl_X3_47 dX3_reasonOf_98 ?_
          refine r_iload_n X dX3_reasonOf_101 (i := 2) rfl rfl ?_
          refine r_iald X (hw.2 _ _ (by first | decide | (simp [cnt] <;> omega))) (evA (by decide) (by decide)) (by first | with_reducible rfl | with_reducible assumption | (rw [pk_mul, nI_add])) (by first | with_reducible assumption | (simp [alen] <;> omega)) (by decide) dX3_reasonOf_102 ?_
          first | with_reducible refine r_icmpn_ge X dX3_reasonOf_103 (tgt := 115) (by decide) (by omega) (by omega) (fun h5 => ?_) (fun h5 => ?_) | refine r_icmp_ge X dX3_reasonOf_103 (tgt := 115) (by decide) (fun h5 => ?_) (fun h5 => ?_)
          · refine r_aload_n X dX3_reasonOf_115 (i := 0) rfl rfl ?_
            refine r_get X kc3 (j := 7) (hw.2 _ _ (by first | decide | (simp [cnt] <;> omega))) ev3 (by decide) rfl fl_X3_13 dX3_reasonOf_116 ?_
            refine r_iload_n X dX3_reasonOf_119 (i := 1) rfl rfl ?_
            refine r_iald X (hw.2 _ _ (by first | decide | (simp [cnt] <;> omega))) (evA (by decide) (by decide)) (by first | with_reducible rfl | with_reducible assumption | (rw [pk_mul, nI_add])) (by first | with_reducible assumption | (simp [alen] <;> omega)) (by decide) dX3_reasonOf_120 ?_
            refine r_aload_n X dX3_reasonOf_121 (i := 0) rfl rfl ?_
            refine r_get X kc3 (j := 18) (hw.2 _ _ (by first | decide | (simp [cnt] <;> omega))) ev3 (by decide) rfl fl_X3_47 dX3_reasonOf_122 ?_
            refine r_iload_n X dX3_reasonOf_125 (i := 2) rfl rfl ?_
            refine r_iald X (hw.2 _ _ (by first | decide | (simp [cnt] <;> omega))) (evA (by decide) (by decide)) (by first | with_reducible rfl | with_reducible assumption | (rw [pk_mul, nI_add])) (by first | with_reducible assumption | (simp [alen] <;> omega)) (by decide) dX3_reasonOf_126 ?_
            first | with_reducible refine r_icmpn_le X dX3_reasonOf_127 (tgt := 144) (by decide) (by omega) (by omega) (fun h6 => ?_) (fun h6 => ?_) | refine r_icmp_le X dX3_reasonOf_127 (tgt := 144) (by decide) (fun h6 => ?_) (fun h6 => ?_)
            · refine r_bipush X dX3_reasonOf_144 (v := nI 45) (by decide) ?_
              refine r_cret X dX3_reasonOf_146 (by first | with_reducible exact mis_c _ _ _ | rfl | assumption) (by first | decide | (simp only [rmv]; omega)) (by first | decide | (simp only [rmv]; omega)) ?_
              first | with_reducible rfl | (simp [mim, h1, h2, h3, h4, h5, h6]; done) | contradiction
            · refine r_aload_n X dX3_reasonOf_130 (i := 0) rfl rfl ?_
              refine r_get X kc3 (j := 15) (hw.2 _ _ (by first | decide | (simp [cnt] <;> omega))) ev3 (by decide) rfl fl_X3_38 dX3_reasonOf_131 ?_
              refine r_iload_n X dX3_reasonOf_134 (i := 2) rfl rfl ?_
              refine r_zald X (hw.2 _ _ (by first | decide | (simp [cnt] <;> omega))) (evA (by decide) (by decide)) (by first | with_reducible rfl | with_reducible assumption | (rw [pk_mul, nI_add])) (by first | with_reducible assumption | (simp [alen] <;> omega)) (by decide) dX3_reasonOf_135 ?_
              first | with_reducible refine r_ifb_ne X dX3_reasonOf_136 (tgt := 144) (by decide) (fun h7 => ?_) (fun h7 => ?_) | refine r_if_ne X dX3_reasonOf_136 (tgt := 144) (by decide) (fun h7 => ?_) (fun h7 => ?_)
              · refine r_bipush X dX3_reasonOf_144 (v := nI 45) (by decide) ?_
                refine r_cret X dX3_reasonOf_146 (by first | with_reducible exact mis_c _ _ _ | rfl | assumption) (by first | decide | (simp only [rmv]; omega)) (by first | decide | (simp only [rmv]; omega)) ?_
                first | with_reducible rfl | (simp [mim, h1, h2, h3, h4, h5, h6, h7]; done) | contradiction
              · refine r_bipush X dX3_reasonOf_139 (v := nI 118) (by decide) ?_
                refine r_goto X dX3_reasonOf_141 (tgt := 146) (by decide) ?_
                refine r_cret X dX3_reasonOf_146 (by first | with_reducible exact mis_c _ _ _ | rfl | assumption) (by first | decide | (simp only [rmv]; omega)) (by first | decide | (simp only [rmv]; omega)) ?_
                first | with_reducible rfl | (simp [mim, h1, h2, h3, h4, h5, h6, h7]; done) | contradiction
          · refine r_aload_n X dX3_reasonOf_106 (i := 0) rfl rfl ?_
            refine r_get X kc3 (j := 14) (hw.2 _ _ (by first | decide | (simp [cnt] <;> omega))) ev3 (by decide) rfl fl_X3_35 dX3_reasonOf_107 ?_
            refine r_iload_n X dX3_reasonOf_110 (i := 2) rfl rfl ?_
            refine r_zald X (hw.2 _ _ (by first | decide | (simp [cnt] <;> omega))) (evA (by decide) (by decide)) (by first | with_reducible rfl | with_reducible assumption | (rw [pk_mul, nI_add])) (by first | with_reducible assumption | (simp [alen] <;> omega)) (by decide) dX3_reasonOf_111 ?_
            first | with_reducible refine r_ifb_eq X dX3_reasonOf_112 (tgt := 139) (by decide) (fun h8 => ?_) (fun h8 => ?_) | refine r_if_eq X dX3_reasonOf_112 (tgt := 139) (by decide) (fun h8 => ?_) (fun h8 => ?_)
            · refine r_bipush X dX3_reasonOf_139 (v := nI 118) (by decide) ?_
              refine r_goto X dX3_reasonOf_141 (tgt := 146) (by decide) ?_
              refine r_cret X dX3_reasonOf_146 (by first | with_reducible exact mis_c _ _ _ | rfl | assumption) (by first | decide | (simp only [rmv]; omega)) (by first | decide | (simp only [rmv]; omega)) ?_
              first | with_reducible rfl | (simp [mim, h1, h2, h3, h4, h5, h8]; done) | contradiction
            · refine r_aload_n X dX3_reasonOf_115 (i := 0) rfl rfl ?_
              refine r_get X kc3 (j := 7) (hw.2 _ _ (by first | decide | (simp [cnt] <;> omega))) ev3 (by decide) rfl fl_X3_13 dX3_reasonOf_116 ?_
              refine r_iload_n X dX3_reasonOf_119 (i := 1) rfl rfl ?_
              refine r_iald X (hw.2 _ _ (by first | decide | (simp [cnt] <;> omega))) (evA (by decide) (by decide)) (by first | with_reducible rfl | with_reducible assumption | (rw [pk_mul, nI_add])) (by first | with_reducible assumption | (simp [alen] <;> omega)) (by decide) dX3_reasonOf_120 ?_
              refine r_aload_n X dX3_reasonOf_121 (i := 0) rfl rfl ?_
              refine r_get X kc3 (j := 18) (hw.2 _ _ (by first | decide | (simp [cnt] <;> omega))) ev3 (by decide) rfl fl_X3_47 dX3_reasonOf_122 ?_
              refine r_iload_n X dX3_reasonOf_125 (i := 2) rfl rfl ?_
              refine r_iald X (hw.2 _ _ (by first | decide | (simp [cnt] <;> omega))) (evA (by decide) (by decide)) (by first | with_reducible rfl | with_reducible assumption | (rw [pk_mul, nI_add])) (by first | with_reducible assumption | (simp [alen] <;> omega)) (by decide) dX3_reasonOf_126 ?_
              first | with_reducible refine r_icmpn_le X dX3_reasonOf_127 (tgt := 144) (by decide) (by omega) (by omega) (fun h9 => ?_) (fun h9 => ?_) | refine r_icmp_le X dX3_reasonOf_127 (tgt := 144) (by decide) (fun h9 => ?_) (fun h9 => ?_)
              · refine r_bipush X dX3_reasonOf_144 (v := nI 45) (by decide) ?_
                refine r_cret X dX3_reasonOf_146 (by first | with_reducible exact mis_c _ _ _ | rfl | assumption) (by first | decide | (simp only [rmv]; omega)) (by first | decide | (simp only [rmv]; omega)) ?_
                first | with_reducible rfl | (simp [mim, h1, h2, h3, h4, h5, h8, h9]; done) | contradiction
              · refine r_aload_n X dX3_reasonOf_130 (i := 0) rfl rfl ?_
                refine r_get X kc3 (j := 15) (hw.2 _ _ (by first | decide | (simp [cnt] <;> omega))) ev3 (by decide) rfl fl_X3_38 dX3_reasonOf_131 ?_
                refine r_iload_n X dX3_reasonOf_134 (i := 2) rfl rfl ?_
                refine r_zald X (hw.2 _ _ (by first | decide | (simp [cnt] <;> omega))) (evA (by decide) (by decide)) (by first | with_reducible rfl | with_reducible assumption | (rw [pk_mul, nI_add])) (by first | with_reducible assumption | (simp [alen] <;> omega)) (by decide) dX3_reasonOf_135 ?_
                first | with_reducible refine r_ifb_ne X dX3_reasonOf_136 (tgt := 144) (by decide) (fun h10 => ?_) (fun h10 => ?_) | refine r_if_ne X dX3_reasonOf_136 (tgt := 144) (by decide) (fun h10 => ?_) (fun h10 => ?_)
                · refine r_bipush X dX3_reasonOf_144 (v := nI 45) (by decide) ?_
                  refine r_cret X dX3_reasonOf_146 (by first | with_reducible exact mis_c _ _ _ | rfl | assumption) (by first | decide | (simp only [rmv]; omega)) (by first | decide | (simp only [rmv]; omega)) ?_
                  first | with_reducible rfl | (simp [mim, h1, h2, h3, h4, h5, h8, h9, h10]; done) | contradiction
                · refine r_bipush X dX3_reasonOf_139 (v := nI 118) (by decide) ?_
                  refine r_goto X dX3_reasonOf_141 (tgt := 146) (by decide) ?_
                  refine r_cret X dX3_reasonOf_146 (by first | with_reducible exact mis_c _ _ _ | rfl | assumption) (by first | decide | (simp only [rmv]; omega)) (by first | decide | (simp only [rmv]; omega)) ?_
                  first | with_reducible rfl | (simp [mim, h1, h2, h3, h4, h5, h8, h9, h10]; done) | contradiction
        · refine r_aload_n X dX3_reasonOf_79 (i := 0) rfl rfl ?_
          refine r_get X kc3 (j := 14) (hw.2 _ _ (by first | decide | (simp [cnt] <;> omega))) ev3 (by decide) rfl fl_X3_35 dX3_reasonOf_80 ?_
          refine r_iload_n X dX3_reasonOf_83 (i := 2) rfl rfl ?_
          refine r_zald X (hw.2 _ _ (by first | decide | (simp [cnt] <;> omega))) (evA (by decide) (by decide)) (by first | with_reducible rfl | with_reducible assumption | (rw [pk_mul, nI_add])) (by first | with_reducible assumption | (simp [alen] <;> omega)) (by decide) dX3_reasonOf_84 ?_
          first | with_reducible refine r_ifb_ne X dX3_reasonOf_85 (tgt := 91) (by decide) (fun h11 => ?_) (fun h11 => ?_) | refine r_if_ne X dX3_reasonOf_85 (tgt := 91) (by decide) (fun h11 => ?_) (fun h11 => ?_)
          · refine r_aload_n X dX3_reasonOf_91 (i := 0) rfl rfl ?_
            refine r_get X kc3 (j := 7) (hw.2 _ _ (by first | decide | (simp [cnt] <;> omega))) ev3 (by decide) rfl fl_X3_13 dX3_reasonOf_92 ?_
            refine r_iload_n X dX3_reasonOf_95 (i := 1) rfl rfl ?_
            refine r_iald X (hw.2 _ _ (by first | decide | (simp [cnt] <;> omega))) (evA (by decide) (by decide)) (by first | with_reducible rfl | with_reducible assumption | (rw [pk_mul, nI_add])) (by first | with_reducible assumption | (simp [alen] <;> omega)) (by decide) dX3_reasonOf_96 ?_
            refine r_aload_n X dX3_reasonOf_97 (i := 0) rfl rfl ?_
            refine r_get X kc3 (j := 18) (hw.2 _ _ (by first | decide | (simp [cnt] <;> omega))) ev3 (by decide) rfl fl_X3_47 dX3_reasonOf_98 ?_
            refine r_iload_n X dX3_reasonOf_101 (i := 2) rfl rfl ?_
            refine r_iald X (hw.2 _ _ (by first | decide | (simp [cnt] <;> omega))) (evA (by decide) (by decide)) (by first | with_reducible rfl | with_reducible assumption | (rw [pk_mul, nI_add])) (by first | with_reducible assumption | (simp [alen] <;> omega)) (by decide) dX3_reasonOf_102 ?_
            first | with_reducible refine r_icmpn_ge X dX3_reasonOf_103 (tgt := 115) (by decide) (by omega) (by omega) (fun h12 => ?_) (fun h12 => ?_) | refine r_icmp_ge X dX3_reasonOf_103 (tgt := 115) (by decide) (fun h12 => ?_) (fun h12 => ?_)
            · refine r_aload_n X dX3_reasonOf_115 (i := 0) rfl rfl ?_
              refine r_get X kc3 (j := 7) (hw.2 _ _ (by first | decide | (simp [cnt] <;> omega))) ev3 (by decide) rfl fl_X3_13 dX3_reasonOf_116 ?_
              refine r_iload_n X dX3_reasonOf_119 (i := 1) rfl rfl ?_
              refine r_iald X (hw.2 _ _ (by first | decide | (simp [cnt] <;> omega))) (evA (by decide) (by decide)) (by first | with_reducible rfl | with_reducible assumption | (rw [pk_mul, nI_add])) (by first | with_reducible assumption | (simp [alen] <;> omega)) (by decide) dX3_reasonOf_120 ?_
              refine r_aload_n X dX3_reasonOf_121 (i := 0) rfl rfl ?_
              refine r_get X kc3 (j := 18) (hw.2 _ _ (by first | decide | (simp [cnt] <;> omega))) ev3 (by decide) rfl fl_X3_47 dX3_reasonOf_122 ?_
              refine r_iload_n X dX3_reasonOf_125 (i := 2) rfl rfl ?_
              refine r_iald X (hw.2 _ _ (by first | decide | (simp [cnt] <;> omega))) (evA (by decide) (by decide)) (by first | with_reducible rfl | with_reducible assumption | (rw [pk_mul, nI_add])) (by first | with_reducible assumption | (simp [alen] <;> omega)) (by decide) dX3_reasonOf_126 ?_
              first | with_reducible refine r_icmpn_le X dX3_reasonOf_127 (tgt := 144) (by decide) (by omega) (by omega) (fun h13 => ?_) (fun h13 => ?_) | refine r_icmp_le X dX3_reasonOf_127 (tgt := 144) (by decide) (fun h13 => ?_) (fun h13 => ?_)
              · refine r_bipush X dX3_reasonOf_144 (v := nI 45) (by decide) ?_
                refine r_cret X dX3_reasonOf_146 (by first | with_reducible exact mis_c _ _ _ | rfl | assumption) (by first | decide | (simp only [rmv]; omega)) (by first | decide | (simp only [rmv]; omega)) ?_
                first | with_reducible rfl | (simp [mim, h1, h2, h3, h4, h11, h12, h13]; done) | contradiction
              · refine r_aload_n X dX3_reasonOf_130 (i := 0) rfl rfl ?_
                refine r_get X kc3 (j := 15) (hw.2 _ _ (by first | decide | (simp [cnt] <;> omega))) ev3 (by decide) rfl fl_X3_38 dX3_reasonOf_131 ?_
                refine r_iload_n X dX3_reasonOf_134 (i := 2) rfl rfl ?_
                refine r_zald X (hw.2 _ _ (by first | decide | (simp [cnt] <;> omega))) (evA (by decide) (by decide)) (by first | with_reducible rfl | with_reducible assumption | (rw [pk_mul, nI_add])) (by first | with_reducible assumption | (simp [alen] <;> omega)) (by decide) dX3_reasonOf_135 ?_
                first | with_reducible refine r_ifb_ne X dX3_reasonOf_136 (tgt := 144) (by decide) (fun h14 => ?_) (fun h14 => ?_) | refine r_if_ne X dX3_reasonOf_136 (tgt := 144) (by decide) (fun h14 => ?_) (fun h14 => ?_)
                · refine r_bipush X dX3_reasonOf_144 (v := nI 45) (by decide) ?_
                  refine r_cret X dX3_reasonOf_146 (by first | with_reducible exact mis_c _ _ _ | rfl | assumption) (by first | decide | (simp only [rmv]; omega)) (by first | decide | (simp only [rmv]; omega)) ?_
                  first | with_reducible rfl | (simp [mim, h1, h2, h3, h4, h11, h12, h13, h14]; done) | contradiction
                · refine r_bipush X dX3_reasonOf_139 (v := nI 118) (by decide) ?_
                  refine r_goto X dX3_reasonOf_141 (tgt := 146) (by decide) ?_
                  refine r_cret X dX3_reasonOf_146 (by first | with_reducible exact mis_c _ _ _ | rfl | assumption) (by first | decide | (simp only [rmv]; omega)) (by first | decide | (simp only [rmv]; omega)) ?_
                  first | with_reducible rfl | (simp [mim, h1, h2, h3, h4, h11, h12, h13, h14]; done) | contradiction
            · refine r_aload_n X dX3_reasonOf_106 (i := 0) rfl rfl ?_
              refine r_get X kc3 (j := 14) (hw.2 _ _ (by first | decide | (simp [cnt] <;> omega))) ev3 (by decide) rfl fl_X3_35 dX3_reasonOf_107 ?_
              refine r_iload_n X dX3_reasonOf_110 (i := 2) rfl rfl ?_
              refine r_zald X (hw.2 _ _ (by first | decide | (simp [cnt] <;> omega))) (evA (by decide) (by decide)) (by first | with_reducible rfl | with_reducible assumption | (rw [pk_mul, nI_add])) (by first | with_reducible assumption | (simp [alen] <;> omega)) (by decide) dX3_reasonOf_111 ?_
              first | with_reducible refine r_ifb_eq X dX3_reasonOf_112 (tgt := 139) (by decide) (fun h15 => ?_) (fun h15 => ?_) | refine r_if_eq X dX3_reasonOf_112 (tgt := 139) (by decide) (fun h15 => ?_) (fun h15 => ?_)
              · refine r_bipush X dX3_reasonOf_139 (v := nI 118) (by decide) ?_
                refine r_goto X dX3_reasonOf_141 (tgt := 146) (by decide) ?_
                refine r_cret X dX3_reasonOf_146 (by first | with_reducible exact mis_c _ _ _ | rfl | assumption) (by first | decide | (simp only [rmv]; omega)) (by first | decide | (simp only [rmv]; omega)) ?_
                first | with_reducible rfl | (simp [mim, h1, h2, h3, h4, h11, h12, h15]; done) | contradiction
              · refine r_aload_n X dX3_reasonOf_115 (i := 0) rfl rfl ?_
                refine r_get X kc3 (j := 7) (hw.2 _ _ (by first | decide | (simp [cnt] <;> omega))) ev3 (by decide) rfl fl_X3_13 dX3_reasonOf_116 ?_
                refine r_iload_n X dX3_reasonOf_119 (i := 1) rfl rfl ?_
                refine r_iald X (hw.2 _ _ (by first | decide | (simp [cnt] <;> omega))) (evA (by decide) (by decide)) (by first | with_reducible rfl | with_reducible assumption | (rw [pk_mul, nI_add])) (by first | with_reducible assumption | (simp [alen] <;> omega)) (by decide) dX3_reasonOf_120 ?_
                refine r_aload_n X dX3_reasonOf_121 (i := 0) rfl rfl ?_
                refine r_get X kc3 (j := 18) (hw.2 _ _ (by first | decide | (simp [cnt] <;> omega))) ev3 (by decide) rfl fl_X3_47 dX3_reasonOf_122 ?_
                refine r_iload_n X dX3_reasonOf_125 (i := 2) rfl rfl ?_
                refine r_iald X (hw.2 _ _ (by first | decide | (simp [cnt] <;> omega))) (evA (by decide) (by decide)) (by first | with_reducible rfl | with_reducible assumption | (rw [pk_mul, nI_add])) (by first | with_reducible assumption | (simp [alen] <;> omega)) (by decide) dX3_reasonOf_126 ?_
                first | with_reducible refine r_icmpn_le X dX3_reasonOf_127 (tgt := 144) (by decide) (by omega) (by omega) (fun h16 => ?_) (fun h16 => ?_) | refine r_icmp_le X dX3_reasonOf_127 (tgt := 144) (by decide) (fun h16 => ?_) (fun h16 => ?_)
                · refine r_bipush X dX3_reasonOf_144 (v := nI 45) (by decide) ?_
                  refine r_cret X dX3_reasonOf_146 (by first | with_reducible exact mis_c _ _ _ | rfl | assumption) (by first | decide | (simp only [rmv]; omega)) (by first | decide | (simp only [rmv]; omega)) ?_
                  first | with_reducible rfl | (simp [mim, h1, h2, h3, h4, h11, h12, h15, h16]; done) | contradiction
                · refine r_aload_n X dX3_reasonOf_130 (i := 0) rfl rfl ?_
                  refine r_get X kc3 (j := 15) (hw.2 _ _ (by first | decide | (simp [cnt] <;> omega))) ev3 (by decide) rfl fl_X3_38 dX3_reasonOf_131 ?_
                  refine r_iload_n X dX3_reasonOf_134 (i := 2) rfl rfl ?_
                  refine r_zald X (hw.2 _ _ (by first | decide | (simp [cnt] <;> omega))) (evA (by decide) (by decide)) (by first | with_reducible rfl | with_reducible assumption | (rw [pk_mul, nI_add])) (by first | with_reducible assumption | (simp [alen] <;> omega)) (by decide) dX3_reasonOf_135 ?_
                  first | with_reducible refine r_ifb_ne X dX3_reasonOf_136 (tgt := 144) (by decide) (fun h17 => ?_) (fun h17 => ?_) | refine r_if_ne X dX3_reasonOf_136 (tgt := 144) (by decide) (fun h17 => ?_) (fun h17 => ?_)
                  · refine r_bipush X dX3_reasonOf_144 (v := nI 45) (by decide) ?_
                    refine r_cret X dX3_reasonOf_146 (by first | with_reducible exact mis_c _ _ _ | rfl | assumption) (by first | decide | (simp only [rmv]; omega)) (by first | decide | (simp only [rmv]; omega)) ?_
                    first | with_reducible rfl | (simp [mim, h1, h2, h3, h4, h11, h12, h15, h16, h17]; done) | contradiction
                  · refine r_bipush X dX3_reasonOf_139 (v := nI 118) (by decide) ?_
                    refine r_goto X dX3_reasonOf_141 (tgt := 146) (by decide) ?_
                    refine r_cret X dX3_reasonOf_146 (by first | with_reducible exact mis_c _ _ _ | rfl | assumption) (by first | decide | (simp only [rmv]; omega)) (by first | decide | (simp only [rmv]; omega)) ?_
                    first | with_reducible rfl | (simp [mim, h1, h2, h3, h4, h11, h12, h15, h16, h17]; done) | contradiction
          · refine r_bipush X dX3_reasonOf_88 (v := nI 101) (by decide) ?_
            refine r_cret X dX3_reasonOf_90 (by first | with_reducible exact mis_c _ _ _ | rfl | assumption) (by first | decide | (simp only [rmv]; omega)) (by first | decide | (simp only [rmv]; omega)) ?_
            first | with_reducible rfl | (simp [mim, h1, h2, h3, h4, h11]; done) | contradiction
    · refine r_aload_n X dX3_reasonOf_31 (i := 0) rfl rfl ?_
      refine r_get X kc3 (j := 21) (hw.2 _ _ (by first | decide | (simp [cnt] <;> omega))) ev3 (by decide) rfl fl_X3_56 dX3_reasonOf_32 ?_
      refine r_iload_n X dX3_reasonOf_35 (i := 2) rfl rfl ?_
      refine r_iald X (hw.2 _ _ (by first | decide | (simp [cnt] <;> omega))) (evA (by decide) (by decide)) (by first | with_reducible rfl | with_reducible assumption | (rw [pk_mul, nI_add])) (by first | with_reducible assumption | (simp [alen] <;> omega)) (by decide) dX3_reasonOf_36 ?_
      refine r_aload_n X dX3_reasonOf_37 (i := 0) rfl rfl ?_
      refine r_get X kc3 (j := 12) (hw.2 _ _ (by first | decide | (simp [cnt] <;> omega))) ev3 (by decide) rfl fl_X3_28 dX3_reasonOf_38 ?_
      refine r_iload_n X dX3_reasonOf_41 (i := 1) rfl rfl ?_
      refine r_iald X (hw.2 _ _ (by first | decide | (simp [cnt] <;> omega))) (evA (by decide) (by decide)) (by first | with_reducible rfl | with_reducible assumption | (rw [pk_mul, nI_add])) (by first | with_reducible assumption | (simp [alen] <;> omega)) (by decide) dX3_reasonOf_42 ?_
      first | with_reducible refine r_icmpn_eq X dX3_reasonOf_43 (tgt := 49) (by decide) (by omega) (by omega) (fun h18 => ?_) (fun h18 => ?_) | refine r_icmp_eq X dX3_reasonOf_43 (tgt := 49) (by decide) (fun h18 => ?_) (fun h18 => ?_)
      · refine r_aload_n X dX3_reasonOf_49 (i := 0) rfl rfl ?_
        refine r_get X kc3 (j := 8) (hw.2 _ _ (by first | decide | (simp [cnt] <;> omega))) ev3 (by decide) rfl fl_X3_16 dX3_reasonOf_50 ?_
        refine r_iload_n X dX3_reasonOf_53 (i := 1) rfl rfl ?_
        refine r_iald X (hw.2 _ _ (by first | decide | (simp [cnt] <;> omega))) (evA (by decide) (by decide)) (by first | with_reducible rfl | with_reducible assumption | (rw [pk_mul, nI_add])) (by first | with_reducible assumption | (simp [alen] <;> omega)) (by decide) dX3_reasonOf_54 ?_
        refine r_aload_n X dX3_reasonOf_55 (i := 0) rfl rfl ?_
        refine r_get X kc3 (j := 19) (hw.2 _ _ (by first | decide | (simp [cnt] <;> omega))) ev3 (by decide) rfl fl_X3_50 dX3_reasonOf_56 ?_
        refine r_iload_n X dX3_reasonOf_59 (i := 2) rfl rfl ?_
        refine r_iald X (hw.2 _ _ (by first | decide | (simp [cnt] <;> omega))) (evA (by decide) (by decide)) (by first | with_reducible rfl | with_reducible assumption | (rw [pk_mul, nI_add])) (by first | with_reducible assumption | (simp [alen] <;> omega)) (by decide) dX3_reasonOf_60 ?_
        first | with_reducible refine r_icmpn_gt X dX3_reasonOf_61 (tgt := 88) (by decide) (by omega) (by omega) (fun h19 => ?_) (fun h19 => ?_) | refine r_icmp_gt X dX3_reasonOf_61 (tgt := 88) (by decide) (fun h19 => ?_) (fun h19 => ?_)
        · refine r_bipush X dX3_reasonOf_88 (v := nI 101) (by decide) ?_
          refine r_cret X dX3_reasonOf_90 (by first | with_reducible exact mis_c _ _ _ | rfl | assumption) (by first | decide | (simp only [rmv]; omega)) (by first | decide | (simp only [rmv]; omega)) ?_
          first | with_reducible rfl | (simp [mim, h1, h2, h18, h19]; done) | contradiction
        · refine r_aload_n X dX3_reasonOf_64 (i := 0) rfl rfl ?_
          refine r_get X kc3 (j := 8) (hw.2 _ _ (by first | decide | (simp [cnt] <;> omega))) ev3 (by decide) rfl fl_X3_16 dX3_reasonOf_65 ?_
          refine r_iload_n X dX3_reasonOf_68 (i := 1) rfl rfl ?_
          refine r_iald X (hw.2 _ _ (by first | decide | (simp [cnt] <;> omega))) (evA (by decide) (by decide)) (by first | with_reducible rfl | with_reducible assumption | (rw [pk_mul, nI_add])) (by first | with_reducible assumption | (simp [alen] <;> omega)) (by decide) dX3_reasonOf_69 ?_
          refine r_aload_n X dX3_reasonOf_70 (i := 0) rfl rfl ?_
          refine r_get X kc3 (j := 19) (hw.2 _ _ (by first | decide | (simp [cnt] <;> omega))) ev3 (by decide) rfl fl_X3_50 dX3_reasonOf_71 ?_
          refine r_iload_n X dX3_reasonOf_74 (i := 2) rfl rfl ?_
          refine r_iald X (hw.2 _ _ (by first | decide | (simp [cnt] <;> omega))) (evA (by decide) (by decide)) (by first | with_reducible rfl | with_reducible assumption | (rw [pk_mul, nI_add])) (by first | with_reducible assumption | (simp [alen] <;> omega)) (by decide) dX3_reasonOf_75 ?_
          first | with_reducible refine r_icmpn_ge X dX3_reasonOf_76 (tgt := 91) (by decide) (by omega) (by omega) (fun h20 => ?_) (fun h20 => ?_) | refine r_icmp_ge X dX3_reasonOf_76 (tgt := 91) (by decide) (fun h20 => ?_) (fun h20 => ?_)
          · refine r_aload_n X dX3_reasonOf_91 (i := 0) rfl rfl ?_
            refine r_get X kc3 (j := 7) (hw.2 _ _ (by first | decide | (simp [cnt] <;> omega))) ev3 (by decide) rfl fl_X3_13 dX3_reasonOf_92 ?_
            refine r_iload_n X dX3_reasonOf_95 (i := 1) rfl rfl ?_
            refine r_iald X (hw.2 _ _ (by first | decide | (simp [cnt] <;> omega))) (evA (by decide) (by decide)) (by first | with_reducible rfl | with_reducible assumption | (rw [pk_mul, nI_add])) (by first | with_reducible assumption | (simp [alen] <;> omega)) (by decide) dX3_reasonOf_96 ?_
            refine r_aload_n X dX3_reasonOf_97 (i := 0) rfl rfl ?_
            refine r_get X kc3 (j := 18) (hw.2 _ _ (by first | decide | (simp [cnt] <;> omega))) ev3 (by decide) rfl fl_X3_47 dX3_reasonOf_98 ?_
            refine r_iload_n X dX3_reasonOf_101 (i := 2) rfl rfl ?_
            refine r_iald X (hw.2 _ _ (by first | decide | (simp [cnt] <;> omega))) (evA (by decide) (by decide)) (by first | with_reducible rfl | with_reducible assumption | (rw [pk_mul, nI_add])) (by first | with_reducible assumption | (simp [alen] <;> omega)) (by decide) dX3_reasonOf_102 ?_
            first | with_reducible refine r_icmpn_ge X dX3_reasonOf_103 (tgt := 115) (by decide) (by omega) (by omega) (fun h21 => ?_) (fun h21 => ?_) | refine r_icmp_ge X dX3_reasonOf_103 (tgt := 115) (by decide) (fun h21 => ?_) (fun h21 => ?_)
            · refine r_aload_n X dX3_reasonOf_115 (i := 0) rfl rfl ?_
              refine r_get X kc3 (j := 7) (hw.2 _ _ (by first | decide | (simp [cnt] <;> omega))) ev3 (by decide) rfl fl_X3_13 dX3_reasonOf_116 ?_
              refine r_iload_n X dX3_reasonOf_119 (i := 1) rfl rfl ?_
              refine r_iald X (hw.2 _ _ (by first | decide | (simp [cnt] <;> omega))) (evA (by decide) (by decide)) (by first | with_reducible rfl | with_reducible assumption | (rw [pk_mul, nI_add])) (by first | with_reducible assumption | (simp [alen] <;> omega)) (by decide) dX3_reasonOf_120 ?_
              refine r_aload_n X dX3_reasonOf_121 (i := 0) rfl rfl ?_
              refine r_get X kc3 (j := 18) (hw.2 _ _ (by first | decide | (simp [cnt] <;> omega))) ev3 (by decide) rfl fl_X3_47 dX3_reasonOf_122 ?_
              refine r_iload_n X dX3_reasonOf_125 (i := 2) rfl rfl ?_
              refine r_iald X (hw.2 _ _ (by first | decide | (simp [cnt] <;> omega))) (evA (by decide) (by decide)) (by first | with_reducible rfl | with_reducible assumption | (rw [pk_mul, nI_add])) (by first | with_reducible assumption | (simp [alen] <;> omega)) (by decide) dX3_reasonOf_126 ?_
              first | with_reducible refine r_icmpn_le X dX3_reasonOf_127 (tgt := 144) (by decide) (by omega) (by omega) (fun h22 => ?_) (fun h22 => ?_) | refine r_icmp_le X dX3_reasonOf_127 (tgt := 144) (by decide) (fun h22 => ?_) (fun h22 => ?_)
              · refine r_bipush X dX3_reasonOf_144 (v := nI 45) (by decide) ?_
                refine r_cret X dX3_reasonOf_146 (by first | with_reducible exact mis_c _ _ _ | rfl | assumption) (by first | decide | (simp only [rmv]; omega)) (by first | decide | (simp only [rmv]; omega)) ?_
                first | with_reducible rfl | (simp [mim, h1, h2, h18, h19, h20, h21, h22]; done) | contradiction
              · refine r_aload_n X dX3_reasonOf_130 (i := 0) rfl rfl ?_
                refine r_get X kc3 (j := 15) (hw.2 _ _ (by first | decide | (simp [cnt] <;> omega))) ev3 (by decide) rfl fl_X3_38 dX3_reasonOf_131 ?_
                refine r_iload_n X dX3_reasonOf_134 (i := 2) rfl rfl ?_
                refine r_zald X (hw.2 _ _ (by first | decide | (simp [cnt] <;> omega))) (evA (by decide) (by decide)) (by first | with_reducible rfl | with_reducible assumption | (rw [pk_mul, nI_add])) (by first | with_reducible assumption | (simp [alen] <;> omega)) (by decide) dX3_reasonOf_135 ?_
                first | with_reducible refine r_ifb_ne X dX3_reasonOf_136 (tgt := 144) (by decide) (fun h23 => ?_) (fun h23 => ?_) | refine r_if_ne X dX3_reasonOf_136 (tgt := 144) (by decide) (fun h23 => ?_) (fun h23 => ?_)
                · refine r_bipush X dX3_reasonOf_144 (v := nI 45) (by decide) ?_
                  refine r_cret X dX3_reasonOf_146 (by first | with_reducible exact mis_c _ _ _ | rfl | assumption) (by first | decide | (simp only [rmv]; omega)) (by first | decide | (simp only [rmv]; omega)) ?_
                  first | with_reducible rfl | (simp [mim, h1, h2, h18, h19, h20, h21, h22, h23]; done) | contradiction
                · refine r_bipush X dX3_reasonOf_139 (v := nI 118) (by decide) ?_
                  refine r_goto X dX3_reasonOf_141 (tgt := 146) (by decide) ?_
                  refine r_cret X dX3_reasonOf_146 (by first | with_reducible exact mis_c _ _ _ | rfl | assumption) (by first | decide | (simp only [rmv]; omega)) (by first | decide | (simp only [rmv]; omega)) ?_
                  first | with_reducible rfl | (simp [mim, h1, h2, h18, h19, h20, h21, h22, h23]; done) | contradiction
            · refine r_aload_n X dX3_reasonOf_106 (i := 0) rfl rfl ?_
              refine r_get X kc3 (j := 14) (hw.2 _ _ (by first | decide | (simp [cnt] <;> omega))) ev3 (by decide) rfl fl_X3_35 dX3_reasonOf_107 ?_
              refine r_iload_n X dX3_reasonOf_110 (i := 2) rfl rfl ?_
              refine r_zald X (hw.2 _ _ (by first | decide | (simp [cnt] <;> omega))) (evA (by decide) (by decide)) (by first | with_reducible rfl | with_reducible assumption | (rw [pk_mul, nI_add])) (by first | with_reducible assumption | (simp [alen] <;> omega)) (by decide) dX3_reasonOf_111 ?_
              first | with_reducible refine r_ifb_eq X dX3_reasonOf_112 (tgt := 139) (by decide) (fun h24 => ?_) (fun h24 => ?_) | refine r_if_eq X dX3_reasonOf_112 (tgt := 139) (by decide) (fun h24 => ?_) (fun h24 => ?_)
              · refine r_bipush X dX3_reasonOf_139 (v := nI 118) (by decide) ?_
                refine r_goto X dX3_reasonOf_141 (tgt := 146) (by decide) ?_
                refine r_cret X dX3_reasonOf_146 (by first | with_reducible exact mis_c _ _ _ | rfl | assumption) (by first | decide | (simp only [rmv]; omega)) (by first | decide | (simp only [rmv]; omega)) ?_
                first | with_reducible rfl | (simp [mim, h1, h2, h18, h19, h20, h21, h24]; done) | contradiction
              · refine r_aload_n X dX3_reasonOf_115 (i := 0) rfl rfl ?_
                refine r_get X kc3 (j := 7) (hw.2 _ _ (by first | decide | (simp [cnt] <;> omega))) ev3 (by decide) rfl fl_X3_13 dX3_reasonOf_116 ?_
                refine r_iload_n X dX3_reasonOf_119 (i := 1) rfl rfl ?_
                refine r_iald X (hw.2 _ _ (by first | decide | (simp [cnt] <;> omega))) (evA (by decide) (by decide)) (by first | with_reducible rfl | with_reducible assumption | (rw [pk_mul, nI_add])) (by first | with_reducible assumption | (simp [alen] <;> omega)) (by decide) dX3_reasonOf_120 ?_
                refine r_aload_n X dX3_reasonOf_121 (i := 0) rfl rfl ?_
                refine r_get X kc3 (j := 18) (hw.2 _ _ (by first | decide | (simp [cnt] <;> omega))) ev3 (by decide) rfl fl_X3_47 dX3_reasonOf_122 ?_
                refine r_iload_n X dX3_reasonOf_125 (i := 2) rfl rfl ?_
                refine r_iald X (hw.2 _ _ (by first | decide | (simp [cnt] <;> omega))) (evA (by decide) (by decide)) (by first | with_reducible rfl | with_reducible assumption | (rw [pk_mul, nI_add])) (by first | with_reducible assumption | (simp [alen] <;> omega)) (by decide) dX3_reasonOf_126 ?_
                first | with_reducible refine r_icmpn_le X dX3_reasonOf_127 (tgt := 144) (by decide) (by omega) (by omega) (fun h25 => ?_) (fun h25 => ?_) | refine r_icmp_le X dX3_reasonOf_127 (tgt := 144) (by decide) (fun h25 => ?_) (fun h25 => ?_)
                · refine r_bipush X dX3_reasonOf_144 (v := nI 45) (by decide) ?_
                  refine r_cret X dX3_reasonOf_146 (by first | with_reducible exact mis_c _ _ _ | rfl | assumption) (by first | decide | (simp only [rmv]; omega)) (by first | decide | (simp only [rmv]; omega)) ?_
                  first | with_reducible rfl | (simp [mim, h1, h2, h18, h19, h20, h21, h24, h25]; done) | contradiction
                · refine r_aload_n X dX3_reasonOf_130 (i := 0) rfl rfl ?_
                  refine r_get X kc3 (j := 15) (hw.2 _ _ (by first | decide | (simp [cnt] <;> omega))) ev3 (by decide) rfl fl_X3_38 dX3_reasonOf_131 ?_
                  refine r_iload_n X dX3_reasonOf_134 (i := 2) rfl rfl ?_
                  refine r_zald X (hw.2 _ _ (by first | decide | (simp [cnt] <;> omega))) (evA (by decide) (by decide)) (by first | with_reducible rfl | with_reducible assumption | (rw [pk_mul, nI_add])) (by first | with_reducible assumption | (simp [alen] <;> omega)) (by decide) dX3_reasonOf_135 ?_
                  first | with_reducible refine r_ifb_ne X dX3_reasonOf_136 (tgt := 144) (by decide) (fun h26 => ?_) (fun h26 => ?_) | refine r_if_ne X dX3_reasonOf_136 (tgt := 144) (by decide) (fun h26 => ?_) (fun h26 => ?_)
                  · refine r_bipush X dX3_reasonOf_144 (v := nI 45) (by decide) ?_
                    refine r_cret X dX3_reasonOf_146 (by first | with_reducible exact mis_c _ _ _ | rfl | assumption) (by first | decide | (simp only [rmv]; omega)) (by first | decide | (simp only [rmv]; omega)) ?_
                    first | with_reducible rfl | (simp [mim, h1, h2, h18, h19, h20, h21, h24, h25, h26]; done) | contradiction
                  · refine r_bipush X dX3_reasonOf_139 (v := nI 118) (by decide) ?_
                    refine r_goto X dX3_reasonOf_141 (tgt := 146) (by decide) ?_
                    refine r_cret X dX3_reasonOf_146 (by first | with_reducible exact mis_c _ _ _ | rfl | assumption) (by first | decide | (simp only [rmv]; omega)) (by first | decide | (simp only [rmv]; omega)) ?_
                    first | with_reducible rfl | (simp [mim, h1, h2, h18, h19, h20, h21, h24, h25, h26]; done) | contradiction
          · refine r_aload_n X dX3_reasonOf_79 (i := 0) rfl rfl ?_
            refine r_get X kc3 (j := 14) (hw.2 _ _ (by first | decide | (simp [cnt] <;> omega))) ev3 (by decide) rfl fl_X3_35 dX3_reasonOf_80 ?_
            refine r_iload_n X dX3_reasonOf_83 (i := 2) rfl rfl ?_
            refine r_zald X (hw.2 _ _ (by first | decide | (simp [cnt] <;> omega))) (evA (by decide) (by decide)) (by first | with_reducible rfl | with_reducible assumption | (rw [pk_mul, nI_add])) (by first | with_reducible assumption | (simp [alen] <;> omega)) (by decide) dX3_reasonOf_84 ?_
            first | with_reducible refine r_ifb_ne X dX3_reasonOf_85 (tgt := 91) (by decide) (fun h27 => ?_) (fun h27 => ?_) | refine r_if_ne X dX3_reasonOf_85 (tgt := 91) (by decide) (fun h27 => ?_) (fun h27 => ?_)
            · refine r_aload_n X dX3_reasonOf_91 (i := 0) rfl rfl ?_
              refine r_get X kc3 (j := 7) (hw.2 _ _ (by first | decide | (simp [cnt] <;> omega))) ev3 (by decide) rfl fl_X3_13 dX3_reasonOf_92 ?_
              refine r_iload_n X dX3_reasonOf_95 (i := 1) rfl rfl ?_
              refine r_iald X (hw.2 _ _ (by first | decide | (simp [cnt] <;> omega))) (evA (by decide) (by decide)) (by first | with_reducible rfl | with_reducible assumption | (rw [pk_mul, nI_add])) (by first | with_reducible assumption | (simp [alen] <;> omega)) (by decide) dX3_reasonOf_96 ?_
              refine r_aload_n X dX3_reasonOf_97 (i := 0) rfl rfl ?_
              refine r_get X kc3 (j := 18) (hw.2 _ _ (by first | decide | (simp [cnt] <;> omega))) ev3 (by decide) rfl fl_X3_47 dX3_reasonOf_98 ?_
              refine r_iload_n X dX3_reasonOf_101 (i := 2) rfl rfl ?_
              refine r_iald X (hw.2 _ _ (by first | decide | (simp [cnt] <;> omega))) (evA (by decide) (by decide)) (by first | with_reducible rfl | with_reducible assumption | (rw [pk_mul, nI_add])) (by first | with_reducible assumption | (simp [alen] <;> omega)) (by decide) dX3_reasonOf_102 ?_
              first | with_reducible refine r_icmpn_ge X dX3_reasonOf_103 (tgt := 115) (by decide) (by omega) (by omega) (fun h28 => ?_) (fun h28 => ?_) | refine r_icmp_ge X dX3_reasonOf_103 (tgt := 115) (by decide) (fun h28 => ?_) (fun h28 => ?_)
              · refine r_aload_n X dX3_reasonOf_115 (i := 0) rfl rfl ?_
                refine r_get X kc3 (j := 7) (hw.2 _ _ (by first | decide | (simp [cnt] <;> omega))) ev3 (by decide) rfl fl_X3_13 dX3_reasonOf_116 ?_
                refine r_iload_n X dX3_reasonOf_119 (i := 1) rfl rfl ?_
                refine r_iald X (hw.2 _ _ (by first | decide | (simp [cnt] <;> omega))) (evA (by decide) (by decide)) (by first | with_reducible rfl | with_reducible assumption | (rw [pk_mul, nI_add])) (by first | with_reducible assumption | (simp [alen] <;> omega)) (by decide) dX3_reasonOf_120 ?_
                refine r_aload_n X dX3_reasonOf_121 (i := 0) rfl rfl ?_
                refine r_get X kc3 (j := 18) (hw.2 _ _ (by first | decide | (simp [cnt] <;> omega))) ev3 (by decide) rfl fl_X3_47 dX3_reasonOf_122 ?_
                refine r_iload_n X dX3_reasonOf_125 (i := 2) rfl rfl ?_
                refine r_iald X (hw.2 _ _ (by first | decide | (simp [cnt] <;> omega))) (evA (by decide) (by decide)) (by first | with_reducible rfl | with_reducible assumption | (rw [pk_mul, nI_add])) (by first | with_reducible assumption | (simp [alen] <;> omega)) (by decide) dX3_reasonOf_126 ?_
                first | with_reducible refine r_icmpn_le X dX3_reasonOf_127 (tgt := 144) (by decide) (by omega) (by omega) (fun h29 => ?_) (fun h29 => ?_) | refine r_icmp_le X dX3_reasonOf_127 (tgt := 144) (by decide) (fun h29 => ?_) (fun h29 => ?_)
                · refine r_bipush X dX3_reasonOf_144 (v := nI 45) (by decide) ?_
                  refine r_cret X dX3_reasonOf_146 (by first | with_reducible exact mis_c _ _ _ | rfl | assumption) (by first | decide | (simp only [rmv]; omega)) (by first | decide | (simp only [rmv]; omega)) ?_
                  first | with_reducible rfl | (simp [mim, h1, h2, h18, h19, h20, h27, h28, h29]; done) | contradiction
                · refine r_aload_n X dX3_reasonOf_130 (i := 0) rfl rfl ?_
                  refine r_get X kc3 (j := 15) (hw.2 _ _ (by first | decide | (simp [cnt] <;> omega))) ev3 (by decide) rfl fl_X3_38 dX3_reasonOf_131 ?_
                  refine r_iload_n X dX3_reasonOf_134 (i := 2) rfl rfl ?_
                  refine r_zald X (hw.2 _ _ (by first | decide | (simp [cnt] <;> omega))) (evA (by decide) (by decide)) (by first | with_reducible rfl | with_reducible assumption | (rw [pk_mul, nI_add])) (by first | with_reducible assumption | (simp [alen] <;> omega)) (by decide) dX3_reasonOf_135 ?_
                  first | with_reducible refine r_ifb_ne X dX3_reasonOf_136 (tgt := 144) (by decide) (fun h30 => ?_) (fun h30 => ?_) | refine r_if_ne X dX3_reasonOf_136 (tgt := 144) (by decide) (fun h30 => ?_) (fun h30 => ?_)
                  · refine r_bipush X dX3_reasonOf_144 (v := nI 45) (by decide) ?_
                    refine r_cret X dX3_reasonOf_146 (by first | with_reducible exact mis_c _ _ _ | rfl | assumption) (by first | decide | (simp only [rmv]; omega)) (by first | decide | (simp only [rmv]; omega)) ?_
                    first | with_reducible rfl | (simp [mim, h1, h2, h18, h19, h20, h27, h28, h29, h30]; done) | contradiction
                  · refine r_bipush X dX3_reasonOf_139 (v := nI 118) (by decide) ?_
                    refine r_goto X dX3_reasonOf_141 (tgt := 146) (by decide) ?_
                    refine r_cret X dX3_reasonOf_146 (by first | with_reducible exact mis_c _ _ _ | rfl | assumption) (by first | decide | (simp only [rmv]; omega)) (by first | decide | (simp only [rmv]; omega)) ?_
                    first | with_reducible rfl | (simp [mim, h1, h2, h18, h19, h20, h27, h28, h29, h30]; done) | contradiction
              · refine r_aload_n X dX3_reasonOf_106 (i := 0) rfl rfl ?_
                refine r_get X kc3 (j := 14) (hw.2 _ _ (by first | decide | (simp [cnt] <;> omega))) ev3 (by decide) rfl fl_X3_35 dX3_reasonOf_107 ?_
                refine r_iload_n X dX3_reasonOf_110 (i := 2) rfl rfl ?_
                refine r_zald X (hw.2 _ _ (by first | decide | (simp [cnt] <;> omega))) (evA (by decide) (by decide)) (by first | with_reducible rfl | with_reducible assumption | (rw [pk_mul, nI_add])) (by first | with_reducible assumption | (simp [alen] <;> omega)) (by decide) dX3_reasonOf_111 ?_
                first | with_reducible refine r_ifb_eq X dX3_reasonOf_112 (tgt := 139) (by decide) (fun h31 => ?_) (fun h31 => ?_) | refine r_if_eq X dX3_reasonOf_112 (tgt := 139) (by decide) (fun h31 => ?_) (fun h31 => ?_)
                · refine r_bipush X dX3_reasonOf_139 (v := nI 118) (by decide) ?_
                  refine r_goto X dX3_reasonOf_141 (tgt := 146) (by decide) ?_
                  refine r_cret X dX3_reasonOf_146 (by first | with_reducible exact mis_c _ _ _ | rfl | assumption) (by first | decide | (simp only [rmv]; omega)) (by first | decide | (simp only [rmv]; omega)) ?_
                  first | with_reducible rfl | (simp [mim, h1, h2, h18, h19, h20, h27, h28, h31]; done) | contradiction
                · refine r_aload_n X dX3_reasonOf_115 (i := 0) rfl rfl ?_
                  refine r_get X kc3 (j := 7) (hw.2 _ _ (by first | decide | (simp [cnt] <;> omega))) ev3 (by decide) rfl fl_X3_13 dX3_reasonOf_116 ?_
                  refine r_iload_n X dX3_reasonOf_119 (i := 1) rfl rfl ?_
                  refine r_iald X (hw.2 _ _ (by first | decide | (simp [cnt] <;> omega))) (evA (by decide) (by decide)) (by first | with_reducible rfl | with_reducible assumption | (rw [pk_mul, nI_add])) (by first | with_reducible assumption | (simp [alen] <;> omega)) (by decide) dX3_reasonOf_120 ?_
                  refine r_aload_n X dX3_reasonOf_121 (i := 0) rfl rfl ?_
                  refine r_get X kc3 (j := 18) (hw.2 _ _ (by first | decide | (simp [cnt] <;> omega))) ev3 (by decide) rfl fl_X3_47 dX3_reasonOf_122 ?_
                  refine r_iload_n X dX3_reasonOf_125 (i := 2) rfl rfl ?_
                  refine r_iald X (hw.2 _ _ (by first | decide | (simp [cnt] <;> omega))) (evA (by decide) (by decide)) (by first | with_reducible rfl | with_reducible assumption | (rw [pk_mul, nI_add])) (by first | with_reducible assumption | (simp [alen] <;> omega)) (by decide) dX3_reasonOf_126 ?_
                  first | with_reducible refine r_icmpn_le X dX3_reasonOf_127 (tgt := 144) (by decide) (by omega) (by omega) (fun h32 => ?_) (fun h32 => ?_) | refine r_icmp_le X dX3_reasonOf_127 (tgt := 144) (by decide) (fun h32 => ?_) (fun h32 => ?_)
                  · refine r_bipush X dX3_reasonOf_144 (v := nI 45) (by decide) ?_
                    refine r_cret X dX3_reasonOf_146 (by first | with_reducible exact mis_c _ _ _ | rfl | assumption) (by first | decide | (simp only [rmv]; omega)) (by first | decide | (simp only [rmv]; omega)) ?_
                    first | with_reducible rfl | (simp [mim, h1, h2, h18, h19, h20, h27, h28, h31, h32]; done) | contradiction
                  · refine r_aload_n X dX3_reasonOf_130 (i := 0) rfl rfl ?_
                    refine r_get X kc3 (j := 15) (hw.2 _ _ (by first | decide | (simp [cnt] <;> omega))) ev3 (by decide) rfl fl_X3_38 dX3_reasonOf_131 ?_
                    refine r_iload_n X dX3_reasonOf_134 (i := 2) rfl rfl ?_
                    refine r_zald X (hw.2 _ _ (by first | decide | (simp [cnt] <;> omega))) (evA (by decide) (by decide)) (by first | with_reducible rfl | with_reducible assumption | (rw [pk_mul, nI_add])) (by first | with_reducible assumption | (simp [alen] <;> omega)) (by decide) dX3_reasonOf_135 ?_
                    first | with_reducible refine r_ifb_ne X dX3_reasonOf_136 (tgt := 144) (by decide) (fun h33 => ?_) (fun h33 => ?_) | refine r_if_ne X dX3_reasonOf_136 (tgt := 144) (by decide) (fun h33 => ?_) (fun h33 => ?_)
                    · refine r_bipush X dX3_reasonOf_144 (v := nI 45) (by decide) ?_
                      refine r_cret X dX3_reasonOf_146 (by first | with_reducible exact mis_c _ _ _ | rfl | assumption) (by first | decide | (simp only [rmv]; omega)) (by first | decide | (simp only [rmv]; omega)) ?_
                      first | with_reducible rfl | (simp [mim, h1, h2, h18, h19, h20, h27, h28, h31, h32, h33]; done) | contradiction
                    · refine r_bipush X dX3_reasonOf_139 (v := nI 118) (by decide) ?_
                      refine r_goto X dX3_reasonOf_141 (tgt := 146) (by decide) ?_
                      refine r_cret X dX3_reasonOf_146 (by first | with_reducible exact mis_c _ _ _ | rfl | assumption) (by first | decide | (simp only [rmv]; omega)) (by first | decide | (simp only [rmv]; omega)) ?_
                      first | with_reducible rfl | (simp [mim, h1, h2, h18, h19, h20, h27, h28, h31, h32, h33]; done) | contradiction
            · refine r_bipush X dX3_reasonOf_88 (v := nI 101) (by decide) ?_
              refine r_cret X dX3_reasonOf_90 (by first | with_reducible exact mis_c _ _ _ | rfl | assumption) (by first | decide | (simp only [rmv]; omega)) (by first | decide | (simp only [rmv]; omega)) ?_
              first | with_reducible rfl | (simp [mim, h1, h2, h18, h19, h20, h27]; done) | contradiction
      · refine r_bipush X dX3_reasonOf_46 (v := nI 111) (by decide) ?_
        refine r_cret X dX3_reasonOf_48 (by first | with_reducible exact mis_c _ _ _ | rfl | assumption) (by first | decide | (simp only [rmv]; omega)) (by first | decide | (simp only [rmv]; omega)) ?_
        first | with_reducible rfl | (simp [mim, h1, h2, h18]; done) | contradiction
  · refine r_bipush X dX3_reasonOf_18 (v := nI 112) (by decide) ?_
    refine r_cret X dX3_reasonOf_20 (by first | with_reducible exact mis_c _ _ _ | rfl | assumption) (by first | decide | (simp only [rmv]; omega)) (by first | decide | (simp only [rmv]; omega)) ?_
    first | with_reducible rfl | (simp [mim, h1]; done) | contradiction

set_option maxHeartbeats 4000000 in
set_option maxRecDepth 100000 in
theorem c_X3_fits {l : Launch} {w : Wo} {M : Mem} {G : Lng} {x y : Int32} {i e9 : Nat} (hnt : l.stackTraces = false) (hw : WK w) (hD : DM M) (hx : x = nI i) (hi : i < 12) (hy : y = nI e9) (he : e9 < 5) : CT l yX3_fits [Cond.code yX3_fits cX3_fits 3 (some .boolean)] 3 0 0 w [.ref (w.1 (3, 0)), .int x, .int y] M G (okO (some (.int (bi (fim M e9 i)))) (M) G) := by
  refine CT_of hnt hw.1 mw_X3_fits (by simp [Value.category]) (Nat.le_of_ble_eq_true rfl) (fun p e s m args below meth c X => ?_)
  refine r_aload_n X dX3_fits_0 (i := 0) rfl rfl ?_
  refine r_iload_n X dX3_fits_1 (i := 1) rfl rfl ?_
  refine r_iload_n X dX3_fits_2 (i := 2) rfl rfl ?_
  refine r_callV X (c_X3_reasonOf hnt hw (by first | with_reducible assumption | with_reducible rfl | omega | (with_reducible (repeat (first | assumption | refine DM_t ?_ | refine DM_ms rfl ?_)); done)) (by first | with_reducible assumption | with_reducible rfl | omega | (with_reducible (repeat (first | assumption | refine DM_t ?_ | refine DM_ms rfl ?_)); done)) (by first | with_reducible assumption | with_reducible rfl | omega | (with_reducible (repeat (first | assumption | refine DM_t ?_ | refine DM_ms rfl ?_)); done)) (by first | with_reducible assumption | with_reducible rfl | omega | (with_reducible (repeat (first | assumption | refine DM_t ?_ | refine DM_ms rfl ?_)); done)) (by first | with_reducible assumption | with_reducible rfl | omega | (with_reducible (repeat (first | assumption | refine DM_t ?_ | refine DM_ms rfl ?_)); done))) mw_X3_reasonOf kc3 mi_X3_reasonOf (hw.2 _ _ (by first | decide | (simp [cnt] <;> omega))) ev3 ml_X3_113 rfl rfl (Nat.le_of_ble_eq_true rfl) (by first | decide | (simp only [rmv]; omega)) (by first | decide | (simp only [rmv]; omega)) (by first | decide | (simp only [rmv]; omega)) (by first | decide | (simp only [rmv]; omega)) dX3_fits_3 (ko1 ?_)
  refine r_bipush X dX3_fits_6 (v := nI 45) (by decide) ?_
  first | with_reducible refine r_icmpn_ne X dX3_fits_8 (tgt := 15) (by decide) (by omega) (by omega) (fun h1 => ?_) (fun h1 => ?_) | refine r_icmp_ne X dX3_fits_8 (tgt := 15) (by decide) (fun h1 => ?_) (fun h1 => ?_)
  · refine r_iconst X dX3_fits_15 (v := nI 0) (by decide) ?_
    refine r_zret X dX3_fits_16 (by first | decide | (simp only [rmv]; omega)) (by first | decide | (simp only [rmv]; omega)) (by with_reducible rfl) ?_
    first | with_reducible rfl | (simp [fim, bi_f, bi_t, h1]; done) | contradiction
  · refine r_iconst X dX3_fits_11 (v := nI 1) (by decide) ?_
    refine r_goto X dX3_fits_12 (tgt := 16) (by decide) ?_
    refine r_zret X dX3_fits_16 (by first | decide | (simp only [rmv]; omega)) (by first | decide | (simp only [rmv]; omega)) (by with_reducible rfl) ?_
    first | with_reducible rfl | (simp [fim, bi_f, bi_t, h1]; done) | contradiction

set_option maxHeartbeats 4000000 in
set_option maxRecDepth 100000 in
theorem lp_fitsm {p : Program} {l : Launch} {e : Env} {s : State} {m : MethodId} {args : Array Value} {below : List Frame} {meth : Method} {c : Code} {w : Wo} {M : Mem} {G : Lng} {x : Int32} {i : Nat} (hnt : l.stackTraces = false) (hw : WK w) (X : Cx p l (rmv 4 0 0) s m args meth c cX3_fits_ 4 yX3_fits_.cls (some .int) [] w) (hD : DM M) (hx : x = nI i) (hi : i < 12) : ∀ (n k : Nat), k + n = ix (M 3 0 3) → VE p l e (rmv 4 0 0) s m args below meth c (0) (0) (QV w (okO (some (.int (cfm M i (ix (M 3 0 3))))) (M) G) below args s 0 0) 4 w 4 [some (.ref (w.1 (3, 0))), some (.int x), some (.int (cfm M i k)), some (.int (nI k))] [] (ev w (M) (G)) := by
  intro n
  induction n with
  | zero =>
    intro k hk
    have h6 := hD.2.2.1.2
    refine r_iload_n X dX3_fits__4 (i := 3) rfl rfl ?_
    refine r_aload_n X dX3_fits__5 (i := 0) rfl rfl ?_
    refine r_get X kc3 (j := 3) (hw.2 _ _ (by first | decide | (simp [cnt] <;> omega))) ev3 (by decide) rfl fl_X3_86 dX3_fits__6 ?_
    refine r_icmpr_ge X dX3_fits__9 (tgt := 35) (by decide) (by with_reducible rfl) (hD.2.2.1.1) (by omega) (by omega) (fun h1 => ?_) (fun h1 => ?_)
    · refine r_iload_n X dX3_fits__35 (i := 2) rfl rfl ?_
      refine r_iret X dX3_fits__36 (by first | decide | (simp only [rmv]; omega)) (by first | decide | (simp only [rmv]; omega)) ?_
      first | with_reducible rfl | (rw [show k = ix (M 3 0 3) by omega]; done) | contradiction | with_reducible assumption
    · exact absurd h1 (by omega)
  | succ n ih =>
    intro k hk
    have h6 := hD.2.2.1.2
    refine r_iload_n X dX3_fits__4 (i := 3) rfl rfl ?_
    refine r_aload_n X dX3_fits__5 (i := 0) rfl rfl ?_
    refine r_get X kc3 (j := 3) (hw.2 _ _ (by first | decide | (simp [cnt] <;> omega))) ev3 (by decide) rfl fl_X3_86 dX3_fits__6 ?_
    refine r_icmpr_ge X dX3_fits__9 (tgt := 35) (by decide) (by with_reducible rfl) (hD.2.2.1.1) (by omega) (by omega) (fun h1 => ?_) (fun h1 => ?_)
    · exact absurd h1 (by omega)
    · refine r_iload_n X dX3_fits__12 (i := 2) rfl rfl ?_
      refine r_aload_n X dX3_fits__13 (i := 0) rfl rfl ?_
      refine r_iload_n X dX3_fits__14 (i := 1) rfl rfl ?_
      refine r_iload_n X dX3_fits__15 (i := 3) rfl rfl ?_
      refine r_callV X (c_X3_fits hnt hw (by first | with_reducible assumption | with_reducible rfl | omega | (with_reducible (repeat (first | assumption | refine DM_t ?_ | refine DM_ms rfl ?_)); done)) (by first | with_reducible assumption | with_reducible rfl | omega | (with_reducible (repeat (first | assumption | refine DM_t ?_ | refine DM_ms rfl ?_)); done)) (by first | with_reducible assumption | with_reducible rfl | omega | (with_reducible (repeat (first | assumption | refine DM_t ?_ | refine DM_ms rfl ?_)); done)) (by first | with_reducible assumption | with_reducible rfl | omega | (with_reducible (repeat (first | assumption | refine DM_t ?_ | refine DM_ms rfl ?_)); done)) (by first | with_reducible assumption | with_reducible rfl | omega | (with_reducible (repeat (first | assumption | refine DM_t ?_ | refine DM_ms rfl ?_)); done))) mw_X3_fits kc3 mi_X3_fits (hw.2 _ _ (by first | decide | (simp [cnt] <;> omega))) ev3 ml_X3_117 rfl rfl (Nat.le_of_ble_eq_true rfl) (by first | decide | (simp only [rmv]; omega)) (by first | decide | (simp only [rmv]; omega)) (by first | decide | (simp only [rmv]; omega)) (by first | decide | (simp only [rmv]; omega)) dX3_fits__16 (ko1 ?_)
      first | with_reducible refine r_ifb_eq X dX3_fits__19 (tgt := 26) (by decide) (fun h2 => ?_) (fun h2 => ?_) | refine r_if_eq X dX3_fits__19 (tgt := 26) (by decide) (fun h2 => ?_) (fun h2 => ?_)
      · refine r_iconst X dX3_fits__26 (v := nI 0) (by decide) ?_
        refine r_iadd X dX3_fits__27 ?_
        refine r_istore_n X dX3_fits__28 (i := 2) rfl (by decide) rfl ?_
        first | with_reducible refine r_iincn X dX3_fits__29 rfl (by decide) rfl ?_ | refine r_iinc1 X dX3_fits__29 rfl (by decide) rfl ?_
        refine r_goto X dX3_fits__32 (tgt := 4) (by decide) ?_
        have q9 := ih (k + 1) (by omega)
        simp only [cfm, h1, h2, Bool.false_eq_true, if_false, if_true] at q9
        exact q9
      · refine r_iconst X dX3_fits__22 (v := nI 1) (by decide) ?_
        refine r_goto X dX3_fits__23 (tgt := 27) (by decide) ?_
        refine r_iadd X dX3_fits__27 ?_
        refine r_istore_n X dX3_fits__28 (i := 2) rfl (by decide) rfl ?_
        first | with_reducible refine r_iincn X dX3_fits__29 rfl (by decide) rfl ?_ | refine r_iinc1 X dX3_fits__29 rfl (by decide) rfl ?_
        refine r_goto X dX3_fits__32 (tgt := 4) (by decide) ?_
        have q9 := ih (k + 1) (by omega)
        simp only [cfm, h1, h2, Bool.false_eq_true, if_false, if_true] at q9
        exact q9

set_option maxHeartbeats 4000000 in
set_option maxRecDepth 100000 in
theorem c_X3_fits_ {l : Launch} {w : Wo} {M : Mem} {G : Lng} {x : Int32} {i : Nat} (hnt : l.stackTraces = false) (hw : WK w) (hD : DM M) (hx : x = nI i) (hi : i < 12) : CT l yX3_fits_ [Cond.code yX3_fits_ cX3_fits_ 4 (some .int)] 4 0 0 w [.ref (w.1 (3, 0)), .int x] M G (okO (some (.int (cfm M i (ix (M 3 0 3))))) (M) G) := by
  refine CT_of hnt hw.1 mw_X3_fits_ (by simp [Value.category]) (Nat.le_of_ble_eq_true rfl) (fun p e s m args below meth c X => ?_)
  refine r_iconst X dX3_fits__0 (v := nI 0) (by decide) ?_
  refine r_istore_n X dX3_fits__1 (i := 2) rfl (by decide) rfl ?_
  refine r_iconst X dX3_fits__2 (v := nI 0) (by decide) ?_
  refine r_istore_n X dX3_fits__3 (i := 3) rfl (by decide) rfl ?_
  exact lp_fitsm hnt hw X hD hx hi (ix (M 3 0 3)) 0 (by omega)

set_option maxHeartbeats 4000000 in
set_option maxRecDepth 100000 in
theorem c_X3_installs {l : Launch} {w : Wo} {M : Mem} {G : Lng}  (hnt : l.stackTraces = false) (hw : WK w)  : CT l yX3_installs [Cond.code yX3_installs cX3_installs 1 (some .int)] 1 0 0 w [.ref (w.1 (3, 0))] M G (okO (some (.int (M 3 0 2))) (M) G) := by
  refine CT_of hnt hw.1 mw_X3_installs (by simp [Value.category]) (Nat.le_of_ble_eq_true rfl) (fun p e s m args below meth c X => ?_)
  refine r_aload_n X dX3_installs_0 (i := 0) rfl rfl ?_
  refine r_get X kc3 (j := 2) (hw.2 _ _ (by first | decide | (simp [cnt] <;> omega))) ev3 (by decide) rfl fl_X3_97 dX3_installs_1 ?_
  refine r_iret X dX3_installs_4 (by first | decide | (simp only [rmv]; omega)) (by first | decide | (simp only [rmv]; omega)) ?_
  first | with_reducible rfl | (simp []; done) | contradiction | with_reducible assumption

set_option maxHeartbeats 4000000 in
set_option maxRecDepth 100000 in
theorem c_X3_install {l : Launch} {w : Wo} {M : Mem} {G : Lng} {p9 v9 e9 d9 c9 u9 q9 : Int32} (hnt : l.stackTraces = false) (hw : WK w) (hD : DM M) : CT l yX3_install [Cond.code yX3_install cX3_install 8 (some .int)] 7 0 0 w [.ref (w.1 (3, 0)), .int p9, .int v9, .int e9, .int d9, .int c9, .int u9, .int q9] M G (nInstall M G p9 v9 e9 d9 c9 u9 q9) := by
  refine CT_of hnt hw.1 mw_X3_install (by simp [Value.category]) (Nat.le_of_ble_eq_true rfl) (fun p e s m args below meth c X => ?_)
  refine r_iload_n X dX3_install_0 (i := 1) rfl rfl ?_
  refine r_iconst X dX3_install_1 (v := nI 0) (by decide) ?_
  refine r_iconst X dX3_install_2 (v := nI 3) (by decide) ?_
  refine r_callS X (c_X3_isIn hnt hw ) mw_X3_isIn mi_X3_isIn ml_X3_89 rfl rfl (Nat.le_of_ble_eq_true rfl) (by first | decide | (simp only [rmv]; omega)) (by first | decide | (simp only [rmv]; omega)) (by first | decide | (simp only [rmv]; omega)) (by first | decide | (simp only [rmv]; omega)) dX3_install_3 (ko1 ?_)
  first | with_reducible refine r_ifb_eq X dX3_install_6 (tgt := 71) (by decide) (fun h1 => ?_) (fun h1 => ?_) | refine r_if_eq X dX3_install_6 (tgt := 71) (by decide) (fun h1 => ?_) (fun h1 => ?_)
  · refine r_aload_n X dX3_install_71 (i := 0) rfl rfl ?_
    refine r_iconst X dX3_install_72 (v := nI 1) (by decide) ?_
    refine r_callV X (c_X3_fail hnt hw ) mw_X3_fail kc3 mi_X3_fail (hw.2 _ _ (by first | decide | (simp [cnt] <;> omega))) ev3 ml_X3_93 rfl rfl (Nat.le_of_ble_eq_true rfl) (by first | decide | (simp only [rmv]; omega)) (by first | decide | (simp only [rmv]; omega)) (by first | decide | (simp only [rmv]; omega)) (by first | decide | (simp only [rmv]; omega)) dX3_install_73 (ko1 ?_)
    refine r_iret X dX3_install_76 (by first | decide | (simp only [rmv]; omega)) (by first | decide | (simp only [rmv]; omega)) ?_
    first | with_reducible rfl | (first | (simp [nInstall, mfI, fillM, er, h1]; done) | (simp [nInstall, mfI, fillM, er, tM, ms_o, ms_s, h1]; done) | (simp [nInstall, mfI, fillM, er, ms_s, h1]; done) | (simp [nInstall, mfI, fillM, er, ms_s, h1]; simp [tM, ms_o]; done); done) | contradiction | with_reducible assumption
  · refine r_iload_n X dX3_install_9 (i := 2) rfl rfl ?_
    refine r_iconst X dX3_install_10 (v := nI 1) (by decide) ?_
    refine r_bipush X dX3_install_11 (v := nI 9) (by decide) ?_
    refine r_callS X (c_X3_isIn hnt hw ) mw_X3_isIn mi_X3_isIn ml_X3_89 rfl rfl (Nat.le_of_ble_eq_true rfl) (by first | decide | (simp only [rmv]; omega)) (by first | decide | (simp only [rmv]; omega)) (by first | decide | (simp only [rmv]; omega)) (by first | decide | (simp only [rmv]; omega)) dX3_install_13 (ko1 ?_)
    first | with_reducible refine r_ifb_eq X dX3_install_16 (tgt := 71) (by decide) (fun h2 => ?_) (fun h2 => ?_) | refine r_if_eq X dX3_install_16 (tgt := 71) (by decide) (fun h2 => ?_) (fun h2 => ?_)
    · refine r_aload_n X dX3_install_71 (i := 0) rfl rfl ?_
      refine r_iconst X dX3_install_72 (v := nI 1) (by decide) ?_
      refine r_callV X (c_X3_fail hnt hw ) mw_X3_fail kc3 mi_X3_fail (hw.2 _ _ (by first | decide | (simp [cnt] <;> omega))) ev3 ml_X3_93 rfl rfl (Nat.le_of_ble_eq_true rfl) (by first | decide | (simp only [rmv]; omega)) (by first | decide | (simp only [rmv]; omega)) (by first | decide | (simp only [rmv]; omega)) (by first | decide | (simp only [rmv]; omega)) dX3_install_73 (ko1 ?_)
      refine r_iret X dX3_install_76 (by first | decide | (simp only [rmv]; omega)) (by first | decide | (simp only [rmv]; omega)) ?_
      first | with_reducible rfl | (first | (simp [nInstall, mfI, fillM, er, h1, h2]; done) | (simp [nInstall, mfI, fillM, er, tM, ms_o, ms_s, h1, h2]; done) | (simp [nInstall, mfI, fillM, er, ms_s, h1, h2]; done) | (simp [nInstall, mfI, fillM, er, ms_s, h1, h2]; simp [tM, ms_o]; done); done) | contradiction | with_reducible assumption
    · refine r_iload_n X dX3_install_19 (i := 3) rfl rfl ?_
      refine r_iconst X dX3_install_20 (v := nI 1) (by decide) ?_
      refine r_iconst X dX3_install_21 (v := nI 3) (by decide) ?_
      refine r_callS X (c_X3_isIn hnt hw ) mw_X3_isIn mi_X3_isIn ml_X3_89 rfl rfl (Nat.le_of_ble_eq_true rfl) (by first | decide | (simp only [rmv]; omega)) (by first | decide | (simp only [rmv]; omega)) (by first | decide | (simp only [rmv]; omega)) (by first | decide | (simp only [rmv]; omega)) dX3_install_22 (ko1 ?_)
      first | with_reducible refine r_ifb_eq X dX3_install_25 (tgt := 71) (by decide) (fun h3 => ?_) (fun h3 => ?_) | refine r_if_eq X dX3_install_25 (tgt := 71) (by decide) (fun h3 => ?_) (fun h3 => ?_)
      · refine r_aload_n X dX3_install_71 (i := 0) rfl rfl ?_
        refine r_iconst X dX3_install_72 (v := nI 1) (by decide) ?_
        refine r_callV X (c_X3_fail hnt hw ) mw_X3_fail kc3 mi_X3_fail (hw.2 _ _ (by first | decide | (simp [cnt] <;> omega))) ev3 ml_X3_93 rfl rfl (Nat.le_of_ble_eq_true rfl) (by first | decide | (simp only [rmv]; omega)) (by first | decide | (simp only [rmv]; omega)) (by first | decide | (simp only [rmv]; omega)) (by first | decide | (simp only [rmv]; omega)) dX3_install_73 (ko1 ?_)
        refine r_iret X dX3_install_76 (by first | decide | (simp only [rmv]; omega)) (by first | decide | (simp only [rmv]; omega)) ?_
        first | with_reducible rfl | (first | (simp [nInstall, mfI, fillM, er, h1, h2, h3]; done) | (simp [nInstall, mfI, fillM, er, tM, ms_o, ms_s, h1, h2, h3]; done) | (simp [nInstall, mfI, fillM, er, ms_s, h1, h2, h3]; done) | (simp [nInstall, mfI, fillM, er, ms_s, h1, h2, h3]; simp [tM, ms_o]; done); done) | contradiction | with_reducible assumption
      · refine r_iload X dX3_install_28 rfl ?_
        refine r_iconst X dX3_install_30 (v := nI 0) (by decide) ?_
        refine r_bipush X dX3_install_31 (v := nI 9) (by decide) ?_
        refine r_callS X (c_X3_isIn hnt hw ) mw_X3_isIn mi_X3_isIn ml_X3_89 rfl rfl (Nat.le_of_ble_eq_true rfl) (by first | decide | (simp only [rmv]; omega)) (by first | decide | (simp only [rmv]; omega)) (by first | decide | (simp only [rmv]; omega)) (by first | decide | (simp only [rmv]; omega)) dX3_install_33 (ko1 ?_)
        first | with_reducible refine r_ifb_eq X dX3_install_36 (tgt := 71) (by decide) (fun h4 => ?_) (fun h4 => ?_) | refine r_if_eq X dX3_install_36 (tgt := 71) (by decide) (fun h4 => ?_) (fun h4 => ?_)
        · refine r_aload_n X dX3_install_71 (i := 0) rfl rfl ?_
          refine r_iconst X dX3_install_72 (v := nI 1) (by decide) ?_
          refine r_callV X (c_X3_fail hnt hw ) mw_X3_fail kc3 mi_X3_fail (hw.2 _ _ (by first | decide | (simp [cnt] <;> omega))) ev3 ml_X3_93 rfl rfl (Nat.le_of_ble_eq_true rfl) (by first | decide | (simp only [rmv]; omega)) (by first | decide | (simp only [rmv]; omega)) (by first | decide | (simp only [rmv]; omega)) (by first | decide | (simp only [rmv]; omega)) dX3_install_73 (ko1 ?_)
          refine r_iret X dX3_install_76 (by first | decide | (simp only [rmv]; omega)) (by first | decide | (simp only [rmv]; omega)) ?_
          first | with_reducible rfl | (first | (simp [nInstall, mfI, fillM, er, h1, h2, h3, h4]; done) | (simp [nInstall, mfI, fillM, er, tM, ms_o, ms_s, h1, h2, h3, h4]; done) | (simp [nInstall, mfI, fillM, er, ms_s, h1, h2, h3, h4]; done) | (simp [nInstall, mfI, fillM, er, ms_s, h1, h2, h3, h4]; simp [tM, ms_o]; done); done) | contradiction | with_reducible assumption
        · refine r_iload X dX3_install_39 rfl ?_
          refine r_iconst X dX3_install_41 (v := nI 0) (by decide) ?_
          refine r_bipush X dX3_install_42 (v := nI 9) (by decide) ?_
          refine r_callS X (c_X3_isIn hnt hw ) mw_X3_isIn mi_X3_isIn ml_X3_89 rfl rfl (Nat.le_of_ble_eq_true rfl) (by first | decide | (simp only [rmv]; omega)) (by first | decide | (simp only [rmv]; omega)) (by first | decide | (simp only [rmv]; omega)) (by first | decide | (simp only [rmv]; omega)) dX3_install_44 (ko1 ?_)
          first | with_reducible refine r_ifb_eq X dX3_install_47 (tgt := 71) (by decide) (fun h5 => ?_) (fun h5 => ?_) | refine r_if_eq X dX3_install_47 (tgt := 71) (by decide) (fun h5 => ?_) (fun h5 => ?_)
          · refine r_aload_n X dX3_install_71 (i := 0) rfl rfl ?_
            refine r_iconst X dX3_install_72 (v := nI 1) (by decide) ?_
            refine r_callV X (c_X3_fail hnt hw ) mw_X3_fail kc3 mi_X3_fail (hw.2 _ _ (by first | decide | (simp [cnt] <;> omega))) ev3 ml_X3_93 rfl rfl (Nat.le_of_ble_eq_true rfl) (by first | decide | (simp only [rmv]; omega)) (by first | decide | (simp only [rmv]; omega)) (by first | decide | (simp only [rmv]; omega)) (by first | decide | (simp only [rmv]; omega)) dX3_install_73 (ko1 ?_)
            refine r_iret X dX3_install_76 (by first | decide | (simp only [rmv]; omega)) (by first | decide | (simp only [rmv]; omega)) ?_
            first | with_reducible rfl | (first | (simp [nInstall, mfI, fillM, er, h1, h2, h3, h4, h5]; done) | (simp [nInstall, mfI, fillM, er, tM, ms_o, ms_s, h1, h2, h3, h4, h5]; done) | (simp [nInstall, mfI, fillM, er, ms_s, h1, h2, h3, h4, h5]; done) | (simp [nInstall, mfI, fillM, er, ms_s, h1, h2, h3, h4, h5]; simp [tM, ms_o]; done); done) | contradiction | with_reducible assumption
          · refine r_iload X dX3_install_50 rfl ?_
            refine r_iconst X dX3_install_52 (v := nI 1) (by decide) ?_
            refine r_bipush X dX3_install_53 (v := nI 16) (by decide) ?_
            refine r_callS X (c_X3_isIn hnt hw ) mw_X3_isIn mi_X3_isIn ml_X3_89 rfl rfl (Nat.le_of_ble_eq_true rfl) (by first | decide | (simp only [rmv]; omega)) (by first | decide | (simp only [rmv]; omega)) (by first | decide | (simp only [rmv]; omega)) (by first | decide | (simp only [rmv]; omega)) dX3_install_55 (ko1 ?_)
            first | with_reducible refine r_ifb_eq X dX3_install_58 (tgt := 71) (by decide) (fun h6 => ?_) (fun h6 => ?_) | refine r_if_eq X dX3_install_58 (tgt := 71) (by decide) (fun h6 => ?_) (fun h6 => ?_)
            · refine r_aload_n X dX3_install_71 (i := 0) rfl rfl ?_
              refine r_iconst X dX3_install_72 (v := nI 1) (by decide) ?_
              refine r_callV X (c_X3_fail hnt hw ) mw_X3_fail kc3 mi_X3_fail (hw.2 _ _ (by first | decide | (simp [cnt] <;> omega))) ev3 ml_X3_93 rfl rfl (Nat.le_of_ble_eq_true rfl) (by first | decide | (simp only [rmv]; omega)) (by first | decide | (simp only [rmv]; omega)) (by first | decide | (simp only [rmv]; omega)) (by first | decide | (simp only [rmv]; omega)) dX3_install_73 (ko1 ?_)
              refine r_iret X dX3_install_76 (by first | decide | (simp only [rmv]; omega)) (by first | decide | (simp only [rmv]; omega)) ?_
              first | with_reducible rfl | (first | (simp [nInstall, mfI, fillM, er, h1, h2, h3, h4, h5, h6]; done) | (simp [nInstall, mfI, fillM, er, tM, ms_o, ms_s, h1, h2, h3, h4, h5, h6]; done) | (simp [nInstall, mfI, fillM, er, ms_s, h1, h2, h3, h4, h5, h6]; done) | (simp [nInstall, mfI, fillM, er, ms_s, h1, h2, h3, h4, h5, h6]; simp [tM, ms_o]; done); done) | contradiction | with_reducible assumption
            · refine r_iload X dX3_install_61 rfl ?_
              refine r_iconst X dX3_install_63 (v := nI 0) (by decide) ?_
              refine r_iconst X dX3_install_64 (v := nI 2) (by decide) ?_
              refine r_callS X (c_X3_isIn hnt hw ) mw_X3_isIn mi_X3_isIn ml_X3_89 rfl rfl (Nat.le_of_ble_eq_true rfl) (by first | decide | (simp only [rmv]; omega)) (by first | decide | (simp only [rmv]; omega)) (by first | decide | (simp only [rmv]; omega)) (by first | decide | (simp only [rmv]; omega)) dX3_install_65 (ko1 ?_)
              first | with_reducible refine r_ifb_ne X dX3_install_68 (tgt := 77) (by decide) (fun h7 => ?_) (fun h7 => ?_) | refine r_if_ne X dX3_install_68 (tgt := 77) (by decide) (fun h7 => ?_) (fun h7 => ?_)
              · refine r_aload_n X dX3_install_77 (i := 0) rfl rfl ?_
                refine r_get X kc3 (j := 2) (hw.2 _ _ (by first | decide | (simp [cnt] <;> omega))) ev3 (by decide) rfl fl_X3_97 dX3_install_78 ?_
                refine r_bipush X dX3_install_81 (v := nI 6) (by decide) ?_
                first | with_reducible refine r_icmpn_eq X dX3_install_83 (tgt := 95) (by decide) (by omega) (by omega) (fun h8 => ?_) (fun h8 => ?_) | refine r_icmp_eq X dX3_install_83 (tgt := 95) (by decide) (fun h8 => ?_) (fun h8 => ?_)
                · refine r_aload_n X dX3_install_95 (i := 0) rfl rfl ?_
                  refine r_iconst X dX3_install_96 (v := nI 2) (by decide) ?_
                  refine r_callV X (c_X3_fail hnt hw ) mw_X3_fail kc3 mi_X3_fail (hw.2 _ _ (by first | decide | (simp [cnt] <;> omega))) ev3 ml_X3_93 rfl rfl (Nat.le_of_ble_eq_true rfl) (by first | decide | (simp only [rmv]; omega)) (by first | decide | (simp only [rmv]; omega)) (by first | decide | (simp only [rmv]; omega)) (by first | decide | (simp only [rmv]; omega)) dX3_install_97 (ko1 ?_)
                  refine r_iret X dX3_install_100 (by first | decide | (simp only [rmv]; omega)) (by first | decide | (simp only [rmv]; omega)) ?_
                  first | with_reducible rfl | (first | (simp [nInstall, mfI, fillM, er, h1, h2, h3, h4, h5, h6, h7, h8]; done) | (simp [nInstall, mfI, fillM, er, tM, ms_o, ms_s, h1, h2, h3, h4, h5, h6, h7, h8]; done) | (simp [nInstall, mfI, fillM, er, ms_s, h1, h2, h3, h4, h5, h6, h7, h8]; done) | (simp [nInstall, mfI, fillM, er, ms_s, h1, h2, h3, h4, h5, h6, h7, h8]; simp [tM, ms_o]; done); done) | contradiction | with_reducible assumption
                · refine r_aload_n X dX3_install_86 (i := 0) rfl rfl ?_
                  refine r_get X kc3 (j := 1) (hw.2 _ _ (by first | decide | (simp [cnt] <;> omega))) ev3 (by decide) rfl fl_X3_100 dX3_install_87 ?_
                  refine r_bipush X dX3_install_90 (v := nI 12) (by decide) ?_
                  first | with_reducible refine r_icmpn_ne X dX3_install_92 (tgt := 101) (by decide) (by omega) (by omega) (fun h9 => ?_) (fun h9 => ?_) | refine r_icmp_ne X dX3_install_92 (tgt := 101) (by decide) (fun h9 => ?_) (fun h9 => ?_)
                  · have hm1 := hD.1.1
                    have hm2 : ix (M 3 0 1) < 12 := by
                      have h13 := hD.1.2
                      rcases Nat.lt_or_ge (ix (M 3 0 1)) 12 with q | q
                      · exact q
                      · exact absurd (by rw [hm1, show ix (M 3 0 1) = 12 by omega]) h9
                    refine r_aload_n X dX3_install_101 (i := 0) rfl rfl ?_
                    refine r_iconst X dX3_install_102 (v := nI 0) (by decide) ?_
                    refine r_put X kc3 (j := 0) (hw.2 _ _ (by first | decide | (simp [cnt] <;> omega))) ev3 (by decide) (Nat.le_of_ble_eq_true rfl) fl_X3_78 rfl rfl rfl dX3_install_103 es_3_0 ?_
                    refine r_aload_n X dX3_install_106 (i := 0) rfl rfl ?_
                    refine r_get X kc3 (j := 6) (hw.2 _ _ (by first | decide | (simp [cnt] <;> omega))) ev3 (by decide) rfl fl_X3_7 dX3_install_107 ?_
                    refine r_aload_n X dX3_install_110 (i := 0) rfl rfl ?_
                    refine r_get X kc3 (j := 1) (hw.2 _ _ (by first | decide | (simp [cnt] <;> omega))) ev3 (by decide) rfl fl_X3_100 dX3_install_111 ?_
                    simp only [mo_3_1, mo_3_3, mo_10, mo_11, mo_12, mo_13, mo_14, mo_15, mo_16, mo_21, mo_22, mo_23, mo_24, mo_25, mo_26, mo_27, mo_28]
                    refine r_iload_n X dX3_install_114 (i := 1) rfl rfl ?_
                    refine r_iast X (hw.2 _ _ (by first | decide | (simp [cnt] <;> omega))) (evA (by decide) (by decide)) (by first | with_reducible rfl | with_reducible assumption | (rw [pk_mul, nI_add])) (by first | with_reducible assumption | (simp [alen] <;> omega)) (by decide) rfl dX3_install_115 (esA (by decide) (by decide)) ?_
                    refine r_aload_n X dX3_install_116 (i := 0) rfl rfl ?_
                    refine r_get X kc3 (j := 7) (hw.2 _ _ (by first | decide | (simp [cnt] <;> omega))) ev3 (by decide) rfl fl_X3_13 dX3_install_117 ?_
                    refine r_aload_n X dX3_install_120 (i := 0) rfl rfl ?_
                    refine r_get X kc3 (j := 1) (hw.2 _ _ (by first | decide | (simp [cnt] <;> omega))) ev3 (by decide) rfl fl_X3_100 dX3_install_121 ?_
                    simp only [mo_3_1, mo_3_3, mo_10, mo_11, mo_12, mo_13, mo_14, mo_15, mo_16, mo_21, mo_22, mo_23, mo_24, mo_25, mo_26, mo_27, mo_28]
                    refine r_iload_n X dX3_install_124 (i := 2) rfl rfl ?_
                    refine r_iast X (hw.2 _ _ (by first | decide | (simp [cnt] <;> omega))) (evA (by decide) (by decide)) (by first | with_reducible rfl | with_reducible assumption | (rw [pk_mul, nI_add])) (by first | with_reducible assumption | (simp [alen] <;> omega)) (by decide) rfl dX3_install_125 (esA (by decide) (by decide)) ?_
                    refine r_aload_n X dX3_install_126 (i := 0) rfl rfl ?_
                    refine r_get X kc3 (j := 8) (hw.2 _ _ (by first | decide | (simp [cnt] <;> omega))) ev3 (by decide) rfl fl_X3_16 dX3_install_127 ?_
                    refine r_aload_n X dX3_install_130 (i := 0) rfl rfl ?_
                    refine r_get X kc3 (j := 1) (hw.2 _ _ (by first | decide | (simp [cnt] <;> omega))) ev3 (by decide) rfl fl_X3_100 dX3_install_131 ?_
                    simp only [mo_3_1, mo_3_3, mo_10, mo_11, mo_12, mo_13, mo_14, mo_15, mo_16, mo_21, mo_22, mo_23, mo_24, mo_25, mo_26, mo_27, mo_28]
                    refine r_iload_n X dX3_install_134 (i := 3) rfl rfl ?_
                    refine r_iast X (hw.2 _ _ (by first | decide | (simp [cnt] <;> omega))) (evA (by decide) (by decide)) (by first | with_reducible rfl | with_reducible assumption | (rw [pk_mul, nI_add])) (by first | with_reducible assumption | (simp [alen] <;> omega)) (by decide) rfl dX3_install_135 (esA (by decide) (by decide)) ?_
                    refine r_aload_n X dX3_install_136 (i := 0) rfl rfl ?_
                    refine r_get X kc3 (j := 9) (hw.2 _ _ (by first | decide | (simp [cnt] <;> omega))) ev3 (by decide) rfl fl_X3_19 dX3_install_137 ?_
                    refine r_aload_n X dX3_install_140 (i := 0) rfl rfl ?_
                    refine r_get X kc3 (j := 1) (hw.2 _ _ (by first | decide | (simp [cnt] <;> omega))) ev3 (by decide) rfl fl_X3_100 dX3_install_141 ?_
                    simp only [mo_3_1, mo_3_3, mo_10, mo_11, mo_12, mo_13, mo_14, mo_15, mo_16, mo_21, mo_22, mo_23, mo_24, mo_25, mo_26, mo_27, mo_28]
                    refine r_iload X dX3_install_144 rfl ?_
                    refine r_iast X (hw.2 _ _ (by first | decide | (simp [cnt] <;> omega))) (evA (by decide) (by decide)) (by first | with_reducible rfl | with_reducible assumption | (rw [pk_mul, nI_add])) (by first | with_reducible assumption | (simp [alen] <;> omega)) (by decide) rfl dX3_install_146 (esA (by decide) (by decide)) ?_
                    refine r_aload_n X dX3_install_147 (i := 0) rfl rfl ?_
                    refine r_get X kc3 (j := 10) (hw.2 _ _ (by first | decide | (simp [cnt] <;> omega))) ev3 (by decide) rfl fl_X3_22 dX3_install_148 ?_
                    refine r_aload_n X dX3_install_151 (i := 0) rfl rfl ?_
                    refine r_get X kc3 (j := 1) (hw.2 _ _ (by first | decide | (simp [cnt] <;> omega))) ev3 (by decide) rfl fl_X3_100 dX3_install_152 ?_
                    simp only [mo_3_1, mo_3_3, mo_10, mo_11, mo_12, mo_13, mo_14, mo_15, mo_16, mo_21, mo_22, mo_23, mo_24, mo_25, mo_26, mo_27, mo_28]
                    refine r_iload X dX3_install_155 rfl ?_
                    refine r_iast X (hw.2 _ _ (by first | decide | (simp [cnt] <;> omega))) (evA (by decide) (by decide)) (by first | with_reducible rfl | with_reducible assumption | (rw [pk_mul, nI_add])) (by first | with_reducible assumption | (simp [alen] <;> omega)) (by decide) rfl dX3_install_157 (esA (by decide) (by decide)) ?_
                    refine r_aload_n X dX3_install_158 (i := 0) rfl rfl ?_
                    refine r_get X kc3 (j := 11) (hw.2 _ _ (by first | decide | (simp [cnt] <;> omega))) ev3 (by decide) rfl fl_X3_25 dX3_install_159 ?_
                    refine r_aload_n X dX3_install_162 (i := 0) rfl rfl ?_
                    refine r_get X kc3 (j := 1) (hw.2 _ _ (by first | decide | (simp [cnt] <;> omega))) ev3 (by decide) rfl fl_X3_100 dX3_install_163 ?_
                    simp only [mo_3_1, mo_3_3, mo_10, mo_11, mo_12, mo_13, mo_14, mo_15, mo_16, mo_21, mo_22, mo_23, mo_24, mo_25, mo_26, mo_27, mo_28]
                    refine r_iload X dX3_install_166 rfl ?_
                    refine r_iast X (hw.2 _ _ (by first | decide | (simp [cnt] <;> omega))) (evA (by decide) (by decide)) (by first | with_reducible rfl | with_reducible assumption | (rw [pk_mul, nI_add])) (by first | with_reducible assumption | (simp [alen] <;> omega)) (by decide) rfl dX3_install_168 (esA (by decide) (by decide)) ?_
                    refine r_aload_n X dX3_install_169 (i := 0) rfl rfl ?_
                    refine r_get X kc3 (j := 12) (hw.2 _ _ (by first | decide | (simp [cnt] <;> omega))) ev3 (by decide) rfl fl_X3_28 dX3_install_170 ?_
                    refine r_aload_n X dX3_install_173 (i := 0) rfl rfl ?_
                    refine r_get X kc3 (j := 1) (hw.2 _ _ (by first | decide | (simp [cnt] <;> omega))) ev3 (by decide) rfl fl_X3_100 dX3_install_174 ?_
                    simp only [mo_3_1, mo_3_3, mo_10, mo_11, mo_12, mo_13, mo_14, mo_15, mo_16, mo_21, mo_22, mo_23, mo_24, mo_25, mo_26, mo_27, mo_28]
                    refine r_iload X dX3_install_177 rfl ?_
                    refine r_iast X (hw.2 _ _ (by first | decide | (simp [cnt] <;> omega))) (evA (by decide) (by decide)) (by first | with_reducible rfl | with_reducible assumption | (rw [pk_mul, nI_add])) (by first | with_reducible assumption | (simp [alen] <;> omega)) (by decide) rfl dX3_install_179 (esA (by decide) (by decide)) ?_
                    refine r_aload_n X dX3_install_180 (i := 0) rfl rfl ?_
                    refine r_dup X dX3_install_181 rfl ?_
                    refine r_get X kc3 (j := 2) (hw.2 _ _ (by first | decide | (simp [cnt] <;> omega))) ev3 (by decide) rfl fl_X3_97 dX3_install_182 ?_
                    refine r_iconst X dX3_install_185 (v := nI 1) (by decide) ?_
                    refine r_iadd X dX3_install_186 ?_
                    refine r_put X kc3 (j := 2) (hw.2 _ _ (by first | decide | (simp [cnt] <;> omega))) ev3 (by decide) (Nat.le_of_ble_eq_true rfl) fl_X3_97 rfl rfl rfl dX3_install_187 es_3_2 ?_
                    refine r_aload_n X dX3_install_190 (i := 0) rfl rfl ?_
                    refine r_dup X dX3_install_191 rfl ?_
                    refine r_get X kc3 (j := 1) (hw.2 _ _ (by first | decide | (simp [cnt] <;> omega))) ev3 (by decide) rfl fl_X3_100 dX3_install_192 ?_
                    simp only [mo_3_1, mo_3_3, mo_10, mo_11, mo_12, mo_13, mo_14, mo_15, mo_16, mo_21, mo_22, mo_23, mo_24, mo_25, mo_26, mo_27, mo_28]
                    refine r_dup_x1 X dX3_install_195 rfl rfl ?_
                    refine r_iconst X dX3_install_196 (v := nI 1) (by decide) ?_
                    refine r_iadd X dX3_install_197 ?_
                    refine r_put X kc3 (j := 1) (hw.2 _ _ (by first | decide | (simp [cnt] <;> omega))) ev3 (by decide) (Nat.le_of_ble_eq_true rfl) fl_X3_100 rfl rfl rfl dX3_install_198 es_3_1 ?_
                    refine r_iret X dX3_install_201 (by first | decide | (simp only [rmv]; omega)) (by first | decide | (simp only [rmv]; omega)) ?_
                    first | with_reducible rfl | (first | (simp [nInstall, mfI, fillM, er, h1, h2, h3, h4, h5, h6, h7, h8, h9]; done) | (simp [nInstall, mfI, fillM, er, tM, ms_o, ms_s, h1, h2, h3, h4, h5, h6, h7, h8, h9]; done) | (simp [nInstall, mfI, fillM, er, ms_s, h1, h2, h3, h4, h5, h6, h7, h8, h9]; done) | (simp [nInstall, mfI, fillM, er, ms_s, h1, h2, h3, h4, h5, h6, h7, h8, h9]; simp [tM, ms_o]; done); done) | contradiction | with_reducible assumption
                  · refine r_aload_n X dX3_install_95 (i := 0) rfl rfl ?_
                    refine r_iconst X dX3_install_96 (v := nI 2) (by decide) ?_
                    refine r_callV X (c_X3_fail hnt hw ) mw_X3_fail kc3 mi_X3_fail (hw.2 _ _ (by first | decide | (simp [cnt] <;> omega))) ev3 ml_X3_93 rfl rfl (Nat.le_of_ble_eq_true rfl) (by first | decide | (simp only [rmv]; omega)) (by first | decide | (simp only [rmv]; omega)) (by first | decide | (simp only [rmv]; omega)) (by first | decide | (simp only [rmv]; omega)) dX3_install_97 (ko1 ?_)
                    refine r_iret X dX3_install_100 (by first | decide | (simp only [rmv]; omega)) (by first | decide | (simp only [rmv]; omega)) ?_
                    first | with_reducible rfl | (first | (simp [nInstall, mfI, fillM, er, h1, h2, h3, h4, h5, h6, h7, h8, h9]; done) | (simp [nInstall, mfI, fillM, er, tM, ms_o, ms_s, h1, h2, h3, h4, h5, h6, h7, h8, h9]; done) | (simp [nInstall, mfI, fillM, er, ms_s, h1, h2, h3, h4, h5, h6, h7, h8, h9]; done) | (simp [nInstall, mfI, fillM, er, ms_s, h1, h2, h3, h4, h5, h6, h7, h8, h9]; simp [tM, ms_o]; done); done) | contradiction | with_reducible assumption
              · refine r_aload_n X dX3_install_71 (i := 0) rfl rfl ?_
                refine r_iconst X dX3_install_72 (v := nI 1) (by decide) ?_
                refine r_callV X (c_X3_fail hnt hw ) mw_X3_fail kc3 mi_X3_fail (hw.2 _ _ (by first | decide | (simp [cnt] <;> omega))) ev3 ml_X3_93 rfl rfl (Nat.le_of_ble_eq_true rfl) (by first | decide | (simp only [rmv]; omega)) (by first | decide | (simp only [rmv]; omega)) (by first | decide | (simp only [rmv]; omega)) (by first | decide | (simp only [rmv]; omega)) dX3_install_73 (ko1 ?_)
                refine r_iret X dX3_install_76 (by first | decide | (simp only [rmv]; omega)) (by first | decide | (simp only [rmv]; omega)) ?_
                first | with_reducible rfl | (first | (simp [nInstall, mfI, fillM, er, h1, h2, h3, h4, h5, h6, h7]; done) | (simp [nInstall, mfI, fillM, er, tM, ms_o, ms_s, h1, h2, h3, h4, h5, h6, h7]; done) | (simp [nInstall, mfI, fillM, er, ms_s, h1, h2, h3, h4, h5, h6, h7]; done) | (simp [nInstall, mfI, fillM, er, ms_s, h1, h2, h3, h4, h5, h6, h7]; simp [tM, ms_o]; done); done) | contradiction | with_reducible assumption

set_option maxHeartbeats 4000000 in
set_option maxRecDepth 100000 in
theorem c_X3_retire {l : Launch} {w : Wo} {M : Mem} {G : Lng} {x : Int32} (hnt : l.stackTraces = false) (hw : WK w) (hD : DM M) : CT l yX3_retire [Cond.code yX3_retire cX3_retire 2 (some .int)] 7 0 0 w [.ref (w.1 (3, 0)), .int x] M G (nRetire M G x) := by
  refine CT_of hnt hw.1 mw_X3_retire (by simp [Value.category]) (Nat.le_of_ble_eq_true rfl) (fun p e s m args below meth c X => ?_)
  refine r_aload_n X dX3_retire_0 (i := 0) rfl rfl ?_
  refine r_iload_n X dX3_retire_1 (i := 1) rfl rfl ?_
  refine r_callV X (c_X3_noInstall hnt hw (by first | with_reducible assumption | with_reducible rfl | omega | (with_reducible (repeat (first | assumption | refine DM_t ?_ | refine DM_ms rfl ?_)); done))) mw_X3_noInstall kc3 mi_X3_noInstall (hw.2 _ _ (by first | decide | (simp [cnt] <;> omega))) ev3 ml_X3_103 rfl rfl (Nat.le_of_ble_eq_true rfl) (by first | decide | (simp only [rmv]; omega)) (by first | decide | (simp only [rmv]; omega)) (by first | decide | (simp only [rmv]; omega)) (by first | decide | (simp only [rmv]; omega)) dX3_retire_2 (ko1 ?_)
  first | with_reducible refine r_ifb_eq X dX3_retire_5 (tgt := 10) (by decide) (fun h1 => ?_) (fun h1 => ?_) | refine r_if_eq X dX3_retire_5 (tgt := 10) (by decide) (fun h1 => ?_) (fun h1 => ?_)
  · rw [h1]
    have hx1 := (nti_Rg hD h1).1
    have hx2 := (nti_Rg hD h1).2
    refine r_aload_n X dX3_retire_10 (i := 0) rfl rfl ?_
    refine r_get X kc3 (j := 13) (hw.2 _ _ (by first | decide | (simp [cnt] <;> omega))) ev3 (by decide) rfl fl_X3_31 dX3_retire_11 ?_
    refine r_iload_n X dX3_retire_14 (i := 1) rfl rfl ?_
    refine r_iconst X dX3_retire_15 (v := nI 1) (by decide) ?_
    refine r_zast X (hw.2 _ _ (by first | decide | (simp [cnt] <;> omega))) (evA (by decide) (by decide)) (by first | with_reducible rfl | with_reducible assumption | (rw [pk_mul, nI_add])) (by first | with_reducible assumption | (simp [alen] <;> omega)) (by decide) (by first | with_reducible exact vzb _ | exact vz1 | rfl) dX3_retire_16 (esA (by decide) (by decide)) ?_
    refine r_aload_n X dX3_retire_17 (i := 0) rfl rfl ?_
    refine r_dup X dX3_retire_18 rfl ?_
    refine r_get X kc3 (j := 2) (hw.2 _ _ (by first | decide | (simp [cnt] <;> omega))) ev3 (by decide) rfl fl_X3_97 dX3_retire_19 ?_
    refine r_iconst X dX3_retire_22 (v := nI 1) (by decide) ?_
    refine r_isub X dX3_retire_23 ?_
    refine r_dup_x1 X dX3_retire_24 rfl rfl ?_
    refine r_put X kc3 (j := 2) (hw.2 _ _ (by first | decide | (simp [cnt] <;> omega))) ev3 (by decide) (Nat.le_of_ble_eq_true rfl) fl_X3_97 rfl rfl rfl dX3_retire_25 es_3_2 ?_
    refine r_iret X dX3_retire_28 (by first | decide | (simp only [rmv]; omega)) (by first | decide | (simp only [rmv]; omega)) ?_
    first | with_reducible rfl | (first | (simp [nRetire, er, h1]; done) | (simp [nRetire, er, tM, ms_o, ms_s, h1]; done) | (simp [nRetire, er, ms_s, h1]; done) | (simp [nRetire, er, ms_s, h1]; simp [tM, ms_o]; done); done) | contradiction | with_reducible assumption
  · rw [h1]
    refine r_iconst X dX3_retire_8 (v := nI 0) (by decide) ?_
    refine r_iret X dX3_retire_9 (by first | decide | (simp only [rmv]; omega)) (by first | decide | (simp only [rmv]; omega)) ?_
    first | with_reducible rfl | (first | (simp [nRetire, er, h1]; done) | (simp [nRetire, er, tM, ms_o, ms_s, h1]; done) | (simp [nRetire, er, ms_s, h1]; done) | (simp [nRetire, er, ms_s, h1]; simp [tM, ms_o]; done); done) | contradiction | with_reducible assumption

set_option maxHeartbeats 4000000 in
set_option maxRecDepth 100000 in
theorem c_X3_moveTo {l : Launch} {w : Wo} {M : Mem} {G : Lng} {x d9 u9 : Int32} (hnt : l.stackTraces = false) (hw : WK w) (hD : DM M) : CT l yX3_moveTo [Cond.code yX3_moveTo cX3_moveTo 5 (some .int)] 7 0 0 w [.ref (w.1 (3, 0)), .int x, .int d9, .int u9] M G (nMoveTo M G x d9 u9) := by
  refine CT_of hnt hw.1 mw_X3_moveTo (by simp [Value.category]) (Nat.le_of_ble_eq_true rfl) (fun p e s m args below meth c X => ?_)
  refine r_aload_n X dX3_moveTo_0 (i := 0) rfl rfl ?_
  refine r_iload_n X dX3_moveTo_1 (i := 1) rfl rfl ?_
  refine r_callV X (c_X3_noInstall hnt hw (by first | with_reducible assumption | with_reducible rfl | omega | (with_reducible (repeat (first | assumption | refine DM_t ?_ | refine DM_ms rfl ?_)); done))) mw_X3_noInstall kc3 mi_X3_noInstall (hw.2 _ _ (by first | decide | (simp [cnt] <;> omega))) ev3 ml_X3_103 rfl rfl (Nat.le_of_ble_eq_true rfl) (by first | decide | (simp only [rmv]; omega)) (by first | decide | (simp only [rmv]; omega)) (by first | decide | (simp only [rmv]; omega)) (by first | decide | (simp only [rmv]; omega)) dX3_moveTo_2 (ko1 ?_)
  first | with_reducible refine r_ifb_eq X dX3_moveTo_5 (tgt := 10) (by decide) (fun h1 => ?_) (fun h1 => ?_) | refine r_if_eq X dX3_moveTo_5 (tgt := 10) (by decide) (fun h1 => ?_) (fun h1 => ?_)
  · rw [h1]
    have hx1 := (nti_Rg hD h1).1
    have hx2 := (nti_Rg hD h1).2
    refine r_iload_n X dX3_moveTo_10 (i := 2) rfl rfl ?_
    refine r_iconst X dX3_moveTo_11 (v := nI 0) (by decide) ?_
    refine r_bipush X dX3_moveTo_12 (v := nI 9) (by decide) ?_
    refine r_callS X (c_X3_isIn hnt hw ) mw_X3_isIn mi_X3_isIn ml_X3_89 rfl rfl (Nat.le_of_ble_eq_true rfl) (by first | decide | (simp only [rmv]; omega)) (by first | decide | (simp only [rmv]; omega)) (by first | decide | (simp only [rmv]; omega)) (by first | decide | (simp only [rmv]; omega)) dX3_moveTo_14 (ko1 ?_)
    first | with_reducible refine r_ifb_eq X dX3_moveTo_17 (tgt := 30) (by decide) (fun h2 => ?_) (fun h2 => ?_) | refine r_if_eq X dX3_moveTo_17 (tgt := 30) (by decide) (fun h2 => ?_) (fun h2 => ?_)
    · refine r_aload_n X dX3_moveTo_30 (i := 0) rfl rfl ?_
      refine r_iconst X dX3_moveTo_31 (v := nI 2) (by decide) ?_
      refine r_callV X (c_X3_fail hnt hw ) mw_X3_fail kc3 mi_X3_fail (hw.2 _ _ (by first | decide | (simp [cnt] <;> omega))) ev3 ml_X3_93 rfl rfl (Nat.le_of_ble_eq_true rfl) (by first | decide | (simp only [rmv]; omega)) (by first | decide | (simp only [rmv]; omega)) (by first | decide | (simp only [rmv]; omega)) (by first | decide | (simp only [rmv]; omega)) dX3_moveTo_32 (ko1 ?_)
      refine r_iret X dX3_moveTo_35 (by first | decide | (simp only [rmv]; omega)) (by first | decide | (simp only [rmv]; omega)) ?_
      first | with_reducible rfl | (first | (simp [nMoveTo, er, h1, h2]; done) | (simp [nMoveTo, er, tM, ms_o, ms_s, h1, h2]; done) | (simp [nMoveTo, er, ms_s, h1, h2]; done) | (simp [nMoveTo, er, ms_s, h1, h2]; simp [tM, ms_o]; done); done) | contradiction | with_reducible assumption
    · refine r_iload_n X dX3_moveTo_20 (i := 3) rfl rfl ?_
      refine r_iconst X dX3_moveTo_21 (v := nI 0) (by decide) ?_
      refine r_bipush X dX3_moveTo_22 (v := nI 9) (by decide) ?_
      refine r_callS X (c_X3_isIn hnt hw ) mw_X3_isIn mi_X3_isIn ml_X3_89 rfl rfl (Nat.le_of_ble_eq_true rfl) (by first | decide | (simp only [rmv]; omega)) (by first | decide | (simp only [rmv]; omega)) (by first | decide | (simp only [rmv]; omega)) (by first | decide | (simp only [rmv]; omega)) dX3_moveTo_24 (ko1 ?_)
      first | with_reducible refine r_ifb_ne X dX3_moveTo_27 (tgt := 36) (by decide) (fun h3 => ?_) (fun h3 => ?_) | refine r_if_ne X dX3_moveTo_27 (tgt := 36) (by decide) (fun h3 => ?_) (fun h3 => ?_)
      · refine r_aload_n X dX3_moveTo_36 (i := 0) rfl rfl ?_
        refine r_get X kc3 (j := 9) (hw.2 _ _ (by first | decide | (simp [cnt] <;> omega))) ev3 (by decide) rfl fl_X3_19 dX3_moveTo_37 ?_
        refine r_iload_n X dX3_moveTo_40 (i := 1) rfl rfl ?_
        refine r_iald X (hw.2 _ _ (by first | decide | (simp [cnt] <;> omega))) (evA (by decide) (by decide)) (by first | with_reducible rfl | with_reducible assumption | (rw [pk_mul, nI_add])) (by first | with_reducible assumption | (simp [alen] <;> omega)) (by decide) dX3_moveTo_41 ?_
        refine r_istore X dX3_moveTo_42 (by decide) rfl ?_
        refine r_aload_n X dX3_moveTo_44 (i := 0) rfl rfl ?_
        refine r_get X kc3 (j := 9) (hw.2 _ _ (by first | decide | (simp [cnt] <;> omega))) ev3 (by decide) rfl fl_X3_19 dX3_moveTo_45 ?_
        refine r_iload_n X dX3_moveTo_48 (i := 1) rfl rfl ?_
        refine r_iload_n X dX3_moveTo_49 (i := 2) rfl rfl ?_
        refine r_iast X (hw.2 _ _ (by first | decide | (simp [cnt] <;> omega))) (evA (by decide) (by decide)) (by first | with_reducible rfl | with_reducible assumption | (rw [pk_mul, nI_add])) (by first | with_reducible assumption | (simp [alen] <;> omega)) (by decide) rfl dX3_moveTo_50 (esA (by decide) (by decide)) ?_
        refine r_aload_n X dX3_moveTo_51 (i := 0) rfl rfl ?_
        refine r_get X kc3 (j := 10) (hw.2 _ _ (by first | decide | (simp [cnt] <;> omega))) ev3 (by decide) rfl fl_X3_22 dX3_moveTo_52 ?_
        refine r_iload_n X dX3_moveTo_55 (i := 1) rfl rfl ?_
        refine r_iload_n X dX3_moveTo_56 (i := 3) rfl rfl ?_
        refine r_iast X (hw.2 _ _ (by first | decide | (simp [cnt] <;> omega))) (evA (by decide) (by decide)) (by first | with_reducible rfl | with_reducible assumption | (rw [pk_mul, nI_add])) (by first | with_reducible assumption | (simp [alen] <;> omega)) (by decide) rfl dX3_moveTo_57 (esA (by decide) (by decide)) ?_
        refine r_iload X dX3_moveTo_58 rfl ?_
        refine r_iret X dX3_moveTo_60 (by first | decide | (simp only [rmv]; omega)) (by first | decide | (simp only [rmv]; omega)) ?_
        first | with_reducible rfl | (first | (simp [nMoveTo, er, h1, h2, h3]; done) | (simp [nMoveTo, er, tM, ms_o, ms_s, h1, h2, h3]; done) | (simp [nMoveTo, er, ms_s, h1, h2, h3]; done) | (simp [nMoveTo, er, ms_s, h1, h2, h3]; simp [tM, ms_o]; done); done) | contradiction | with_reducible assumption
      · refine r_aload_n X dX3_moveTo_30 (i := 0) rfl rfl ?_
        refine r_iconst X dX3_moveTo_31 (v := nI 2) (by decide) ?_
        refine r_callV X (c_X3_fail hnt hw ) mw_X3_fail kc3 mi_X3_fail (hw.2 _ _ (by first | decide | (simp [cnt] <;> omega))) ev3 ml_X3_93 rfl rfl (Nat.le_of_ble_eq_true rfl) (by first | decide | (simp only [rmv]; omega)) (by first | decide | (simp only [rmv]; omega)) (by first | decide | (simp only [rmv]; omega)) (by first | decide | (simp only [rmv]; omega)) dX3_moveTo_32 (ko1 ?_)
        refine r_iret X dX3_moveTo_35 (by first | decide | (simp only [rmv]; omega)) (by first | decide | (simp only [rmv]; omega)) ?_
        first | with_reducible rfl | (first | (simp [nMoveTo, er, h1, h2, h3]; done) | (simp [nMoveTo, er, tM, ms_o, ms_s, h1, h2, h3]; done) | (simp [nMoveTo, er, ms_s, h1, h2, h3]; done) | (simp [nMoveTo, er, ms_s, h1, h2, h3]; simp [tM, ms_o]; done); done) | contradiction | with_reducible assumption
  · rw [h1]
    refine r_iconst X dX3_moveTo_8 (v := nI 0) (by decide) ?_
    refine r_iret X dX3_moveTo_9 (by first | decide | (simp only [rmv]; omega)) (by first | decide | (simp only [rmv]; omega)) ?_
    first | with_reducible rfl | (first | (simp [nMoveTo, er, h1]; done) | (simp [nMoveTo, er, tM, ms_o, ms_s, h1]; done) | (simp [nMoveTo, er, ms_s, h1]; done) | (simp [nMoveTo, er, ms_s, h1]; simp [tM, ms_o]; done); done) | contradiction | with_reducible assumption

set_option maxHeartbeats 4000000 in
set_option maxRecDepth 100000 in
theorem c_X3_setVersion {l : Launch} {w : Wo} {M : Mem} {G : Lng} {x d9 u9 : Int32} (hnt : l.stackTraces = false) (hw : WK w) (hD : DM M) : CT l yX3_setVersion [Cond.code yX3_setVersion cX3_setVersion 5 (some .int)] 7 0 0 w [.ref (w.1 (3, 0)), .int x, .int d9, .int u9] M G (nSetVersion M G x d9 u9) := by
  refine CT_of hnt hw.1 mw_X3_setVersion (by simp [Value.category]) (Nat.le_of_ble_eq_true rfl) (fun p e s m args below meth c X => ?_)
  refine r_aload_n X dX3_setVersion_0 (i := 0) rfl rfl ?_
  refine r_iload_n X dX3_setVersion_1 (i := 1) rfl rfl ?_
  refine r_callV X (c_X3_noInstall hnt hw (by first | with_reducible assumption | with_reducible rfl | omega | (with_reducible (repeat (first | assumption | refine DM_t ?_ | refine DM_ms rfl ?_)); done))) mw_X3_noInstall kc3 mi_X3_noInstall (hw.2 _ _ (by first | decide | (simp [cnt] <;> omega))) ev3 ml_X3_103 rfl rfl (Nat.le_of_ble_eq_true rfl) (by first | decide | (simp only [rmv]; omega)) (by first | decide | (simp only [rmv]; omega)) (by first | decide | (simp only [rmv]; omega)) (by first | decide | (simp only [rmv]; omega)) dX3_setVersion_2 (ko1 ?_)
  first | with_reducible refine r_ifb_eq X dX3_setVersion_5 (tgt := 10) (by decide) (fun h1 => ?_) (fun h1 => ?_) | refine r_if_eq X dX3_setVersion_5 (tgt := 10) (by decide) (fun h1 => ?_) (fun h1 => ?_)
  · rw [h1]
    have hx1 := (nti_Rg hD h1).1
    have hx2 := (nti_Rg hD h1).2
    refine r_iload_n X dX3_setVersion_10 (i := 2) rfl rfl ?_
    refine r_iconst X dX3_setVersion_11 (v := nI 1) (by decide) ?_
    refine r_bipush X dX3_setVersion_12 (v := nI 9) (by decide) ?_
    refine r_callS X (c_X3_isIn hnt hw ) mw_X3_isIn mi_X3_isIn ml_X3_89 rfl rfl (Nat.le_of_ble_eq_true rfl) (by first | decide | (simp only [rmv]; omega)) (by first | decide | (simp only [rmv]; omega)) (by first | decide | (simp only [rmv]; omega)) (by first | decide | (simp only [rmv]; omega)) dX3_setVersion_14 (ko1 ?_)
    first | with_reducible refine r_ifb_eq X dX3_setVersion_17 (tgt := 29) (by decide) (fun h2 => ?_) (fun h2 => ?_) | refine r_if_eq X dX3_setVersion_17 (tgt := 29) (by decide) (fun h2 => ?_) (fun h2 => ?_)
    · refine r_aload_n X dX3_setVersion_29 (i := 0) rfl rfl ?_
      refine r_iconst X dX3_setVersion_30 (v := nI 2) (by decide) ?_
      refine r_callV X (c_X3_fail hnt hw ) mw_X3_fail kc3 mi_X3_fail (hw.2 _ _ (by first | decide | (simp [cnt] <;> omega))) ev3 ml_X3_93 rfl rfl (Nat.le_of_ble_eq_true rfl) (by first | decide | (simp only [rmv]; omega)) (by first | decide | (simp only [rmv]; omega)) (by first | decide | (simp only [rmv]; omega)) (by first | decide | (simp only [rmv]; omega)) dX3_setVersion_31 (ko1 ?_)
      refine r_iret X dX3_setVersion_34 (by first | decide | (simp only [rmv]; omega)) (by first | decide | (simp only [rmv]; omega)) ?_
      first | with_reducible rfl | (first | (simp [nSetVersion, er, h1, h2]; done) | (simp [nSetVersion, er, tM, ms_o, ms_s, h1, h2]; done) | (simp [nSetVersion, er, ms_s, h1, h2]; done) | (simp [nSetVersion, er, ms_s, h1, h2]; simp [tM, ms_o]; done); done) | contradiction | with_reducible assumption
    · refine r_iload_n X dX3_setVersion_20 (i := 3) rfl rfl ?_
      refine r_iconst X dX3_setVersion_21 (v := nI 1) (by decide) ?_
      refine r_iconst X dX3_setVersion_22 (v := nI 3) (by decide) ?_
      refine r_callS X (c_X3_isIn hnt hw ) mw_X3_isIn mi_X3_isIn ml_X3_89 rfl rfl (Nat.le_of_ble_eq_true rfl) (by first | decide | (simp only [rmv]; omega)) (by first | decide | (simp only [rmv]; omega)) (by first | decide | (simp only [rmv]; omega)) (by first | decide | (simp only [rmv]; omega)) dX3_setVersion_23 (ko1 ?_)
      first | with_reducible refine r_ifb_ne X dX3_setVersion_26 (tgt := 35) (by decide) (fun h3 => ?_) (fun h3 => ?_) | refine r_if_ne X dX3_setVersion_26 (tgt := 35) (by decide) (fun h3 => ?_) (fun h3 => ?_)
      · refine r_aload_n X dX3_setVersion_35 (i := 0) rfl rfl ?_
        refine r_get X kc3 (j := 7) (hw.2 _ _ (by first | decide | (simp [cnt] <;> omega))) ev3 (by decide) rfl fl_X3_13 dX3_setVersion_36 ?_
        refine r_iload_n X dX3_setVersion_39 (i := 1) rfl rfl ?_
        refine r_iald X (hw.2 _ _ (by first | decide | (simp [cnt] <;> omega))) (evA (by decide) (by decide)) (by first | with_reducible rfl | with_reducible assumption | (rw [pk_mul, nI_add])) (by first | with_reducible assumption | (simp [alen] <;> omega)) (by decide) dX3_setVersion_40 ?_
        refine r_istore X dX3_setVersion_41 (by decide) rfl ?_
        refine r_aload_n X dX3_setVersion_43 (i := 0) rfl rfl ?_
        refine r_get X kc3 (j := 7) (hw.2 _ _ (by first | decide | (simp [cnt] <;> omega))) ev3 (by decide) rfl fl_X3_13 dX3_setVersion_44 ?_
        refine r_iload_n X dX3_setVersion_47 (i := 1) rfl rfl ?_
        refine r_iload_n X dX3_setVersion_48 (i := 2) rfl rfl ?_
        refine r_iast X (hw.2 _ _ (by first | decide | (simp [cnt] <;> omega))) (evA (by decide) (by decide)) (by first | with_reducible rfl | with_reducible assumption | (rw [pk_mul, nI_add])) (by first | with_reducible assumption | (simp [alen] <;> omega)) (by decide) rfl dX3_setVersion_49 (esA (by decide) (by decide)) ?_
        refine r_aload_n X dX3_setVersion_50 (i := 0) rfl rfl ?_
        refine r_get X kc3 (j := 8) (hw.2 _ _ (by first | decide | (simp [cnt] <;> omega))) ev3 (by decide) rfl fl_X3_16 dX3_setVersion_51 ?_
        refine r_iload_n X dX3_setVersion_54 (i := 1) rfl rfl ?_
        refine r_iload_n X dX3_setVersion_55 (i := 3) rfl rfl ?_
        refine r_iast X (hw.2 _ _ (by first | decide | (simp [cnt] <;> omega))) (evA (by decide) (by decide)) (by first | with_reducible rfl | with_reducible assumption | (rw [pk_mul, nI_add])) (by first | with_reducible assumption | (simp [alen] <;> omega)) (by decide) rfl dX3_setVersion_56 (esA (by decide) (by decide)) ?_
        refine r_iload X dX3_setVersion_57 rfl ?_
        refine r_iret X dX3_setVersion_59 (by first | decide | (simp only [rmv]; omega)) (by first | decide | (simp only [rmv]; omega)) ?_
        first | with_reducible rfl | (first | (simp [nSetVersion, er, h1, h2, h3]; done) | (simp [nSetVersion, er, tM, ms_o, ms_s, h1, h2, h3]; done) | (simp [nSetVersion, er, ms_s, h1, h2, h3]; done) | (simp [nSetVersion, er, ms_s, h1, h2, h3]; simp [tM, ms_o]; done); done) | contradiction | with_reducible assumption
      · refine r_aload_n X dX3_setVersion_29 (i := 0) rfl rfl ?_
        refine r_iconst X dX3_setVersion_30 (v := nI 2) (by decide) ?_
        refine r_callV X (c_X3_fail hnt hw ) mw_X3_fail kc3 mi_X3_fail (hw.2 _ _ (by first | decide | (simp [cnt] <;> omega))) ev3 ml_X3_93 rfl rfl (Nat.le_of_ble_eq_true rfl) (by first | decide | (simp only [rmv]; omega)) (by first | decide | (simp only [rmv]; omega)) (by first | decide | (simp only [rmv]; omega)) (by first | decide | (simp only [rmv]; omega)) dX3_setVersion_31 (ko1 ?_)
        refine r_iret X dX3_setVersion_34 (by first | decide | (simp only [rmv]; omega)) (by first | decide | (simp only [rmv]; omega)) ?_
        first | with_reducible rfl | (first | (simp [nSetVersion, er, h1, h2, h3]; done) | (simp [nSetVersion, er, tM, ms_o, ms_s, h1, h2, h3]; done) | (simp [nSetVersion, er, ms_s, h1, h2, h3]; done) | (simp [nSetVersion, er, ms_s, h1, h2, h3]; simp [tM, ms_o]; done); done) | contradiction | with_reducible assumption
  · rw [h1]
    refine r_iconst X dX3_setVersion_8 (v := nI 0) (by decide) ?_
    refine r_iret X dX3_setVersion_9 (by first | decide | (simp only [rmv]; omega)) (by first | decide | (simp only [rmv]; omega)) ?_
    first | with_reducible rfl | (first | (simp [nSetVersion, er, h1]; done) | (simp [nSetVersion, er, tM, ms_o, ms_s, h1]; done) | (simp [nSetVersion, er, ms_s, h1]; done) | (simp [nSetVersion, er, ms_s, h1]; simp [tM, ms_o]; done); done) | contradiction | with_reducible assumption

set_option maxHeartbeats 4000000 in
set_option maxRecDepth 100000 in
theorem c_X3_setPool {l : Launch} {w : Wo} {M : Mem} {G : Lng} {x d9 : Int32} (hnt : l.stackTraces = false) (hw : WK w) (hD : DM M) : CT l yX3_setPool [Cond.code yX3_setPool cX3_setPool 4 (some .int)] 7 0 0 w [.ref (w.1 (3, 0)), .int x, .int d9] M G (nSetPool M G x d9) := by
  refine CT_of hnt hw.1 mw_X3_setPool (by simp [Value.category]) (Nat.le_of_ble_eq_true rfl) (fun p e s m args below meth c X => ?_)
  refine r_aload_n X dX3_setPool_0 (i := 0) rfl rfl ?_
  refine r_iload_n X dX3_setPool_1 (i := 1) rfl rfl ?_
  refine r_callV X (c_X3_noInstall hnt hw (by first | with_reducible assumption | with_reducible rfl | omega | (with_reducible (repeat (first | assumption | refine DM_t ?_ | refine DM_ms rfl ?_)); done))) mw_X3_noInstall kc3 mi_X3_noInstall (hw.2 _ _ (by first | decide | (simp [cnt] <;> omega))) ev3 ml_X3_103 rfl rfl (Nat.le_of_ble_eq_true rfl) (by first | decide | (simp only [rmv]; omega)) (by first | decide | (simp only [rmv]; omega)) (by first | decide | (simp only [rmv]; omega)) (by first | decide | (simp only [rmv]; omega)) dX3_setPool_2 (ko1 ?_)
  first | with_reducible refine r_ifb_eq X dX3_setPool_5 (tgt := 10) (by decide) (fun h1 => ?_) (fun h1 => ?_) | refine r_if_eq X dX3_setPool_5 (tgt := 10) (by decide) (fun h1 => ?_) (fun h1 => ?_)
  · rw [h1]
    have hx1 := (nti_Rg hD h1).1
    have hx2 := (nti_Rg hD h1).2
    refine r_iload_n X dX3_setPool_10 (i := 2) rfl rfl ?_
    refine r_iconst X dX3_setPool_11 (v := nI 0) (by decide) ?_
    refine r_iconst X dX3_setPool_12 (v := nI 2) (by decide) ?_
    refine r_callS X (c_X3_isIn hnt hw ) mw_X3_isIn mi_X3_isIn ml_X3_89 rfl rfl (Nat.le_of_ble_eq_true rfl) (by first | decide | (simp only [rmv]; omega)) (by first | decide | (simp only [rmv]; omega)) (by first | decide | (simp only [rmv]; omega)) (by first | decide | (simp only [rmv]; omega)) dX3_setPool_13 (ko1 ?_)
    first | with_reducible refine r_ifb_ne X dX3_setPool_16 (tgt := 25) (by decide) (fun h2 => ?_) (fun h2 => ?_) | refine r_if_ne X dX3_setPool_16 (tgt := 25) (by decide) (fun h2 => ?_) (fun h2 => ?_)
    · refine r_aload_n X dX3_setPool_25 (i := 0) rfl rfl ?_
      refine r_get X kc3 (j := 12) (hw.2 _ _ (by first | decide | (simp [cnt] <;> omega))) ev3 (by decide) rfl fl_X3_28 dX3_setPool_26 ?_
      refine r_iload_n X dX3_setPool_29 (i := 1) rfl rfl ?_
      refine r_iald X (hw.2 _ _ (by first | decide | (simp [cnt] <;> omega))) (evA (by decide) (by decide)) (by first | with_reducible rfl | with_reducible assumption | (rw [pk_mul, nI_add])) (by first | with_reducible assumption | (simp [alen] <;> omega)) (by decide) dX3_setPool_30 ?_
      refine r_istore_n X dX3_setPool_31 (i := 3) rfl (by decide) rfl ?_
      refine r_aload_n X dX3_setPool_32 (i := 0) rfl rfl ?_
      refine r_get X kc3 (j := 12) (hw.2 _ _ (by first | decide | (simp [cnt] <;> omega))) ev3 (by decide) rfl fl_X3_28 dX3_setPool_33 ?_
      refine r_iload_n X dX3_setPool_36 (i := 1) rfl rfl ?_
      refine r_iload_n X dX3_setPool_37 (i := 2) rfl rfl ?_
      refine r_iast X (hw.2 _ _ (by first | decide | (simp [cnt] <;> omega))) (evA (by decide) (by decide)) (by first | with_reducible rfl | with_reducible assumption | (rw [pk_mul, nI_add])) (by first | with_reducible assumption | (simp [alen] <;> omega)) (by decide) rfl dX3_setPool_38 (esA (by decide) (by decide)) ?_
      refine r_iload_n X dX3_setPool_39 (i := 3) rfl rfl ?_
      refine r_iret X dX3_setPool_40 (by first | decide | (simp only [rmv]; omega)) (by first | decide | (simp only [rmv]; omega)) ?_
      first | with_reducible rfl | (first | (simp [nSetPool, er, h1, h2]; done) | (simp [nSetPool, er, tM, ms_o, ms_s, h1, h2]; done) | (simp [nSetPool, er, ms_s, h1, h2]; done) | (simp [nSetPool, er, ms_s, h1, h2]; simp [tM, ms_o]; done); done) | contradiction | with_reducible assumption
    · refine r_aload_n X dX3_setPool_19 (i := 0) rfl rfl ?_
      refine r_iconst X dX3_setPool_20 (v := nI 2) (by decide) ?_
      refine r_callV X (c_X3_fail hnt hw ) mw_X3_fail kc3 mi_X3_fail (hw.2 _ _ (by first | decide | (simp [cnt] <;> omega))) ev3 ml_X3_93 rfl rfl (Nat.le_of_ble_eq_true rfl) (by first | decide | (simp only [rmv]; omega)) (by first | decide | (simp only [rmv]; omega)) (by first | decide | (simp only [rmv]; omega)) (by first | decide | (simp only [rmv]; omega)) dX3_setPool_21 (ko1 ?_)
      refine r_iret X dX3_setPool_24 (by first | decide | (simp only [rmv]; omega)) (by first | decide | (simp only [rmv]; omega)) ?_
      first | with_reducible rfl | (first | (simp [nSetPool, er, h1, h2]; done) | (simp [nSetPool, er, tM, ms_o, ms_s, h1, h2]; done) | (simp [nSetPool, er, ms_s, h1, h2]; done) | (simp [nSetPool, er, ms_s, h1, h2]; simp [tM, ms_o]; done); done) | contradiction | with_reducible assumption
  · rw [h1]
    refine r_iconst X dX3_setPool_8 (v := nI 0) (by decide) ?_
    refine r_iret X dX3_setPool_9 (by first | decide | (simp only [rmv]; omega)) (by first | decide | (simp only [rmv]; omega)) ?_
    first | with_reducible rfl | (first | (simp [nSetPool, er, h1]; done) | (simp [nSetPool, er, tM, ms_o, ms_s, h1]; done) | (simp [nSetPool, er, ms_s, h1]; done) | (simp [nSetPool, er, ms_s, h1]; simp [tM, ms_o]; done); done) | contradiction | with_reducible assumption

set_option maxHeartbeats 4000000 in
set_option maxRecDepth 100000 in
theorem c_X3_entitle {l : Launch} {w : Wo} {M : Mem} {G : Lng} {p9 v9 d9 m9 u9 q9 : Int32} (hnt : l.stackTraces = false) (hw : WK w) (hD : DM M) (hv3 : vp_nar .char m9 = m9) : CT l yX3_entitle [Cond.code yX3_entitle cX3_entitle 7 (some .int)] 7 0 0 w [.ref (w.1 (3, 0)), .int p9, .int v9, .int d9, .int m9, .int u9, .int q9] M G (nEntitle M G p9 v9 d9 m9 u9 q9) := by
  refine CT_of hnt hw.1 mw_X3_entitle (by simp [Value.category]) (Nat.le_of_ble_eq_true rfl) (fun p e s m args below meth c X => ?_)
  refine r_iload_n X dX3_entitle_0 (i := 1) rfl rfl ?_
  refine r_iconst X dX3_entitle_1 (v := nI 1) (by decide) ?_
  refine r_bipush X dX3_entitle_2 (v := nI 15) (by decide) ?_
  refine r_callS X (c_X3_isIn hnt hw ) mw_X3_isIn mi_X3_isIn ml_X3_89 rfl rfl (Nat.le_of_ble_eq_true rfl) (by first | decide | (simp only [rmv]; omega)) (by first | decide | (simp only [rmv]; omega)) (by first | decide | (simp only [rmv]; omega)) (by first | decide | (simp only [rmv]; omega)) dX3_entitle_4 (ko1 ?_)
  first | with_reducible refine r_ifb_eq X dX3_entitle_7 (tgt := 71) (by decide) (fun h1 => ?_) (fun h1 => ?_) | refine r_if_eq X dX3_entitle_7 (tgt := 71) (by decide) (fun h1 => ?_) (fun h1 => ?_)
  · refine r_aload_n X dX3_entitle_71 (i := 0) rfl rfl ?_
    refine r_iconst X dX3_entitle_72 (v := nI 1) (by decide) ?_
    refine r_callV X (c_X3_fail hnt hw ) mw_X3_fail kc3 mi_X3_fail (hw.2 _ _ (by first | decide | (simp [cnt] <;> omega))) ev3 ml_X3_93 rfl rfl (Nat.le_of_ble_eq_true rfl) (by first | decide | (simp only [rmv]; omega)) (by first | decide | (simp only [rmv]; omega)) (by first | decide | (simp only [rmv]; omega)) (by first | decide | (simp only [rmv]; omega)) dX3_entitle_73 (ko1 ?_)
    refine r_iret X dX3_entitle_76 (by first | decide | (simp only [rmv]; omega)) (by first | decide | (simp only [rmv]; omega)) ?_
    first | with_reducible rfl | (first | (simp [nEntitle, mfE, met, fillN, er, h1]; done) | (simp [nEntitle, mfE, met, fillN, er, tM, ms_o, ms_s, h1]; done) | (simp [nEntitle, mfE, met, fillN, er, ms_s, h1]; done) | (simp [nEntitle, mfE, met, fillN, er, ms_s, h1]; simp [tM, ms_o]; done); done) | contradiction | with_reducible assumption
  · refine r_iload_n X dX3_entitle_10 (i := 2) rfl rfl ?_
    refine r_iconst X dX3_entitle_11 (v := nI 1) (by decide) ?_
    refine r_bipush X dX3_entitle_12 (v := nI 9) (by decide) ?_
    refine r_callS X (c_X3_isIn hnt hw ) mw_X3_isIn mi_X3_isIn ml_X3_89 rfl rfl (Nat.le_of_ble_eq_true rfl) (by first | decide | (simp only [rmv]; omega)) (by first | decide | (simp only [rmv]; omega)) (by first | decide | (simp only [rmv]; omega)) (by first | decide | (simp only [rmv]; omega)) dX3_entitle_14 (ko1 ?_)
    first | with_reducible refine r_ifb_eq X dX3_entitle_17 (tgt := 71) (by decide) (fun h2 => ?_) (fun h2 => ?_) | refine r_if_eq X dX3_entitle_17 (tgt := 71) (by decide) (fun h2 => ?_) (fun h2 => ?_)
    · refine r_aload_n X dX3_entitle_71 (i := 0) rfl rfl ?_
      refine r_iconst X dX3_entitle_72 (v := nI 1) (by decide) ?_
      refine r_callV X (c_X3_fail hnt hw ) mw_X3_fail kc3 mi_X3_fail (hw.2 _ _ (by first | decide | (simp [cnt] <;> omega))) ev3 ml_X3_93 rfl rfl (Nat.le_of_ble_eq_true rfl) (by first | decide | (simp only [rmv]; omega)) (by first | decide | (simp only [rmv]; omega)) (by first | decide | (simp only [rmv]; omega)) (by first | decide | (simp only [rmv]; omega)) dX3_entitle_73 (ko1 ?_)
      refine r_iret X dX3_entitle_76 (by first | decide | (simp only [rmv]; omega)) (by first | decide | (simp only [rmv]; omega)) ?_
      first | with_reducible rfl | (first | (simp [nEntitle, mfE, met, fillN, er, h1, h2]; done) | (simp [nEntitle, mfE, met, fillN, er, tM, ms_o, ms_s, h1, h2]; done) | (simp [nEntitle, mfE, met, fillN, er, ms_s, h1, h2]; done) | (simp [nEntitle, mfE, met, fillN, er, ms_s, h1, h2]; simp [tM, ms_o]; done); done) | contradiction | with_reducible assumption
    · refine r_iload_n X dX3_entitle_20 (i := 3) rfl rfl ?_
      refine r_iconst X dX3_entitle_21 (v := nI 1) (by decide) ?_
      refine r_iconst X dX3_entitle_22 (v := nI 3) (by decide) ?_
      refine r_callS X (c_X3_isIn hnt hw ) mw_X3_isIn mi_X3_isIn ml_X3_89 rfl rfl (Nat.le_of_ble_eq_true rfl) (by first | decide | (simp only [rmv]; omega)) (by first | decide | (simp only [rmv]; omega)) (by first | decide | (simp only [rmv]; omega)) (by first | decide | (simp only [rmv]; omega)) dX3_entitle_23 (ko1 ?_)
      first | with_reducible refine r_ifb_eq X dX3_entitle_26 (tgt := 71) (by decide) (fun h3 => ?_) (fun h3 => ?_) | refine r_if_eq X dX3_entitle_26 (tgt := 71) (by decide) (fun h3 => ?_) (fun h3 => ?_)
      · refine r_aload_n X dX3_entitle_71 (i := 0) rfl rfl ?_
        refine r_iconst X dX3_entitle_72 (v := nI 1) (by decide) ?_
        refine r_callV X (c_X3_fail hnt hw ) mw_X3_fail kc3 mi_X3_fail (hw.2 _ _ (by first | decide | (simp [cnt] <;> omega))) ev3 ml_X3_93 rfl rfl (Nat.le_of_ble_eq_true rfl) (by first | decide | (simp only [rmv]; omega)) (by first | decide | (simp only [rmv]; omega)) (by first | decide | (simp only [rmv]; omega)) (by first | decide | (simp only [rmv]; omega)) dX3_entitle_73 (ko1 ?_)
        refine r_iret X dX3_entitle_76 (by first | decide | (simp only [rmv]; omega)) (by first | decide | (simp only [rmv]; omega)) ?_
        first | with_reducible rfl | (first | (simp [nEntitle, mfE, met, fillN, er, h1, h2, h3]; done) | (simp [nEntitle, mfE, met, fillN, er, tM, ms_o, ms_s, h1, h2, h3]; done) | (simp [nEntitle, mfE, met, fillN, er, ms_s, h1, h2, h3]; done) | (simp [nEntitle, mfE, met, fillN, er, ms_s, h1, h2, h3]; simp [tM, ms_o]; done); done) | contradiction | with_reducible assumption
      · refine r_iload X dX3_entitle_29 rfl ?_
        refine r_bipush X dX3_entitle_31 (v := nI 100) (by decide) ?_
        first | with_reducible refine r_icmpn_eq X dX3_entitle_33 (tgt := 50) (by decide) (by omega) (by omega) (fun h4 => ?_) (fun h4 => ?_) | refine r_icmp_eq X dX3_entitle_33 (tgt := 50) (by decide) (fun h4 => ?_) (fun h4 => ?_)
        · refine r_iload X dX3_entitle_50 rfl ?_
          refine r_iconst X dX3_entitle_52 (v := nI 0) (by decide) ?_
          refine r_bipush X dX3_entitle_53 (v := nI 99) (by decide) ?_
          refine r_callS X (c_X3_isIn hnt hw ) mw_X3_isIn mi_X3_isIn ml_X3_89 rfl rfl (Nat.le_of_ble_eq_true rfl) (by first | decide | (simp only [rmv]; omega)) (by first | decide | (simp only [rmv]; omega)) (by first | decide | (simp only [rmv]; omega)) (by first | decide | (simp only [rmv]; omega)) dX3_entitle_55 (ko1 ?_)
          first | with_reducible refine r_ifb_eq X dX3_entitle_58 (tgt := 71) (by decide) (fun h5 => ?_) (fun h5 => ?_) | refine r_if_eq X dX3_entitle_58 (tgt := 71) (by decide) (fun h5 => ?_) (fun h5 => ?_)
          · refine r_aload_n X dX3_entitle_71 (i := 0) rfl rfl ?_
            refine r_iconst X dX3_entitle_72 (v := nI 1) (by decide) ?_
            refine r_callV X (c_X3_fail hnt hw ) mw_X3_fail kc3 mi_X3_fail (hw.2 _ _ (by first | decide | (simp [cnt] <;> omega))) ev3 ml_X3_93 rfl rfl (Nat.le_of_ble_eq_true rfl) (by first | decide | (simp only [rmv]; omega)) (by first | decide | (simp only [rmv]; omega)) (by first | decide | (simp only [rmv]; omega)) (by first | decide | (simp only [rmv]; omega)) dX3_entitle_73 (ko1 ?_)
            refine r_iret X dX3_entitle_76 (by first | decide | (simp only [rmv]; omega)) (by first | decide | (simp only [rmv]; omega)) ?_
            first | with_reducible rfl | (first | (simp [nEntitle, mfE, met, fillN, er, h1, h2, h3, h4, h5]; done) | (simp [nEntitle, mfE, met, fillN, er, tM, ms_o, ms_s, h1, h2, h3, h4, h5]; done) | (simp [nEntitle, mfE, met, fillN, er, ms_s, h1, h2, h3, h4, h5]; done) | (simp [nEntitle, mfE, met, fillN, er, ms_s, h1, h2, h3, h4, h5]; simp [tM, ms_o]; done); done) | contradiction | with_reducible assumption
          · refine r_iload X dX3_entitle_61 rfl ?_
            refine r_iconst X dX3_entitle_63 (v := -1) (by decide) ?_
            refine r_iconst X dX3_entitle_64 (v := nI 2) (by decide) ?_
            refine r_callS X (c_X3_isIn hnt hw ) mw_X3_isIn mi_X3_isIn ml_X3_89 rfl rfl (Nat.le_of_ble_eq_true rfl) (by first | decide | (simp only [rmv]; omega)) (by first | decide | (simp only [rmv]; omega)) (by first | decide | (simp only [rmv]; omega)) (by first | decide | (simp only [rmv]; omega)) dX3_entitle_65 (ko1 ?_)
            first | with_reducible refine r_ifb_ne X dX3_entitle_68 (tgt := 77) (by decide) (fun h6 => ?_) (fun h6 => ?_) | refine r_if_ne X dX3_entitle_68 (tgt := 77) (by decide) (fun h6 => ?_) (fun h6 => ?_)
            · refine r_aload_n X dX3_entitle_77 (i := 0) rfl rfl ?_
              refine r_get X kc3 (j := 3) (hw.2 _ _ (by first | decide | (simp [cnt] <;> omega))) ev3 (by decide) rfl fl_X3_86 dX3_entitle_78 ?_
              refine r_iconst X dX3_entitle_81 (v := nI 5) (by decide) ?_
              first | with_reducible refine r_icmpn_ne X dX3_entitle_82 (tgt := 91) (by decide) (by omega) (by omega) (fun h7 => ?_) (fun h7 => ?_) | refine r_icmp_ne X dX3_entitle_82 (tgt := 91) (by decide) (fun h7 => ?_) (fun h7 => ?_)
              · have hm1 := hD.2.2.1.1
                have hm2 : ix (M 3 0 3) < 5 := by
                  have h13 := hD.2.2.1.2
                  rcases Nat.lt_or_ge (ix (M 3 0 3)) 5 with q | q
                  · exact q
                  · exact absurd (by rw [hm1, show ix (M 3 0 3) = 5 by omega]) h7
                refine r_aload_n X dX3_entitle_91 (i := 0) rfl rfl ?_
                refine r_iconst X dX3_entitle_92 (v := nI 0) (by decide) ?_
                refine r_put X kc3 (j := 0) (hw.2 _ _ (by first | decide | (simp [cnt] <;> omega))) ev3 (by decide) (Nat.le_of_ble_eq_true rfl) fl_X3_78 rfl rfl rfl dX3_entitle_93 es_3_0 ?_
                refine r_aload_n X dX3_entitle_96 (i := 0) rfl rfl ?_
                refine r_get X kc3 (j := 17) (hw.2 _ _ (by first | decide | (simp [cnt] <;> omega))) ev3 (by decide) rfl fl_X3_44 dX3_entitle_97 ?_
                refine r_aload_n X dX3_entitle_100 (i := 0) rfl rfl ?_
                refine r_get X kc3 (j := 3) (hw.2 _ _ (by first | decide | (simp [cnt] <;> omega))) ev3 (by decide) rfl fl_X3_86 dX3_entitle_101 ?_
                simp only [mo_3_1, mo_3_3, mo_10, mo_11, mo_12, mo_13, mo_14, mo_15, mo_16, mo_21, mo_22, mo_23, mo_24, mo_25, mo_26, mo_27, mo_28]
                refine r_iload_n X dX3_entitle_104 (i := 1) rfl rfl ?_
                refine r_iast X (hw.2 _ _ (by first | decide | (simp [cnt] <;> omega))) (evA (by decide) (by decide)) (by first | with_reducible rfl | with_reducible assumption | (rw [pk_mul, nI_add])) (by first | with_reducible assumption | (simp [alen] <;> omega)) (by decide) rfl dX3_entitle_105 (esA (by decide) (by decide)) ?_
                refine r_aload_n X dX3_entitle_106 (i := 0) rfl rfl ?_
                refine r_get X kc3 (j := 18) (hw.2 _ _ (by first | decide | (simp [cnt] <;> omega))) ev3 (by decide) rfl fl_X3_47 dX3_entitle_107 ?_
                refine r_aload_n X dX3_entitle_110 (i := 0) rfl rfl ?_
                refine r_get X kc3 (j := 3) (hw.2 _ _ (by first | decide | (simp [cnt] <;> omega))) ev3 (by decide) rfl fl_X3_86 dX3_entitle_111 ?_
                simp only [mo_3_1, mo_3_3, mo_10, mo_11, mo_12, mo_13, mo_14, mo_15, mo_16, mo_21, mo_22, mo_23, mo_24, mo_25, mo_26, mo_27, mo_28]
                refine r_iload_n X dX3_entitle_114 (i := 2) rfl rfl ?_
                refine r_iast X (hw.2 _ _ (by first | decide | (simp [cnt] <;> omega))) (evA (by decide) (by decide)) (by first | with_reducible rfl | with_reducible assumption | (rw [pk_mul, nI_add])) (by first | with_reducible assumption | (simp [alen] <;> omega)) (by decide) rfl dX3_entitle_115 (esA (by decide) (by decide)) ?_
                refine r_aload_n X dX3_entitle_116 (i := 0) rfl rfl ?_
                refine r_get X kc3 (j := 19) (hw.2 _ _ (by first | decide | (simp [cnt] <;> omega))) ev3 (by decide) rfl fl_X3_50 dX3_entitle_117 ?_
                refine r_aload_n X dX3_entitle_120 (i := 0) rfl rfl ?_
                refine r_get X kc3 (j := 3) (hw.2 _ _ (by first | decide | (simp [cnt] <;> omega))) ev3 (by decide) rfl fl_X3_86 dX3_entitle_121 ?_
                simp only [mo_3_1, mo_3_3, mo_10, mo_11, mo_12, mo_13, mo_14, mo_15, mo_16, mo_21, mo_22, mo_23, mo_24, mo_25, mo_26, mo_27, mo_28]
                refine r_iload_n X dX3_entitle_124 (i := 3) rfl rfl ?_
                refine r_iast X (hw.2 _ _ (by first | decide | (simp [cnt] <;> omega))) (evA (by decide) (by decide)) (by first | with_reducible rfl | with_reducible assumption | (rw [pk_mul, nI_add])) (by first | with_reducible assumption | (simp [alen] <;> omega)) (by decide) rfl dX3_entitle_125 (esA (by decide) (by decide)) ?_
                refine r_aload_n X dX3_entitle_126 (i := 0) rfl rfl ?_
                refine r_get X kc3 (j := 24) (hw.2 _ _ (by first | decide | (simp [cnt] <;> omega))) ev3 (by decide) rfl fl_X3_65 dX3_entitle_127 ?_
                refine r_aload_n X dX3_entitle_130 (i := 0) rfl rfl ?_
                refine r_get X kc3 (j := 3) (hw.2 _ _ (by first | decide | (simp [cnt] <;> omega))) ev3 (by decide) rfl fl_X3_86 dX3_entitle_131 ?_
                simp only [mo_3_1, mo_3_3, mo_10, mo_11, mo_12, mo_13, mo_14, mo_15, mo_16, mo_21, mo_22, mo_23, mo_24, mo_25, mo_26, mo_27, mo_28]
                refine r_iload X dX3_entitle_134 rfl ?_
                refine r_cast X (hw.2 _ _ (by first | decide | (simp [cnt] <;> omega))) (evA (by decide) (by decide)) (by first | with_reducible rfl | with_reducible assumption | (rw [pk_mul, nI_add])) (by first | with_reducible assumption | (simp [alen] <;> omega)) (by decide) (by assumption) dX3_entitle_136 (esA (by decide) (by decide)) ?_
                refine r_aload_n X dX3_entitle_137 (i := 0) rfl rfl ?_
                refine r_get X kc3 (j := 20) (hw.2 _ _ (by first | decide | (simp [cnt] <;> omega))) ev3 (by decide) rfl fl_X3_53 dX3_entitle_138 ?_
                refine r_aload_n X dX3_entitle_141 (i := 0) rfl rfl ?_
                refine r_get X kc3 (j := 3) (hw.2 _ _ (by first | decide | (simp [cnt] <;> omega))) ev3 (by decide) rfl fl_X3_86 dX3_entitle_142 ?_
                simp only [mo_3_1, mo_3_3, mo_10, mo_11, mo_12, mo_13, mo_14, mo_15, mo_16, mo_21, mo_22, mo_23, mo_24, mo_25, mo_26, mo_27, mo_28]
                refine r_iload X dX3_entitle_145 rfl ?_
                refine r_iast X (hw.2 _ _ (by first | decide | (simp [cnt] <;> omega))) (evA (by decide) (by decide)) (by first | with_reducible rfl | with_reducible assumption | (rw [pk_mul, nI_add])) (by first | with_reducible assumption | (simp [alen] <;> omega)) (by decide) rfl dX3_entitle_147 (esA (by decide) (by decide)) ?_
                refine r_aload_n X dX3_entitle_148 (i := 0) rfl rfl ?_
                refine r_get X kc3 (j := 21) (hw.2 _ _ (by first | decide | (simp [cnt] <;> omega))) ev3 (by decide) rfl fl_X3_56 dX3_entitle_149 ?_
                refine r_aload_n X dX3_entitle_152 (i := 0) rfl rfl ?_
                refine r_get X kc3 (j := 3) (hw.2 _ _ (by first | decide | (simp [cnt] <;> omega))) ev3 (by decide) rfl fl_X3_86 dX3_entitle_153 ?_
                simp only [mo_3_1, mo_3_3, mo_10, mo_11, mo_12, mo_13, mo_14, mo_15, mo_16, mo_21, mo_22, mo_23, mo_24, mo_25, mo_26, mo_27, mo_28]
                refine r_iload X dX3_entitle_156 rfl ?_
                refine r_iast X (hw.2 _ _ (by first | decide | (simp [cnt] <;> omega))) (evA (by decide) (by decide)) (by first | with_reducible rfl | with_reducible assumption | (rw [pk_mul, nI_add])) (by first | with_reducible assumption | (simp [alen] <;> omega)) (by decide) rfl dX3_entitle_158 (esA (by decide) (by decide)) ?_
                refine r_aload_n X dX3_entitle_159 (i := 0) rfl rfl ?_
                refine r_get X kc3 (j := 22) (hw.2 _ _ (by first | decide | (simp [cnt] <;> omega))) ev3 (by decide) rfl fl_X3_59 dX3_entitle_160 ?_
                refine r_aload_n X dX3_entitle_163 (i := 0) rfl rfl ?_
                refine r_get X kc3 (j := 3) (hw.2 _ _ (by first | decide | (simp [cnt] <;> omega))) ev3 (by decide) rfl fl_X3_86 dX3_entitle_164 ?_
                simp only [mo_3_1, mo_3_3, mo_10, mo_11, mo_12, mo_13, mo_14, mo_15, mo_16, mo_21, mo_22, mo_23, mo_24, mo_25, mo_26, mo_27, mo_28]
                refine r_iconst X dX3_entitle_167 (v := nI 1) (by decide) ?_
                refine r_iast X (hw.2 _ _ (by first | decide | (simp [cnt] <;> omega))) (evA (by decide) (by decide)) (by first | with_reducible rfl | with_reducible assumption | (rw [pk_mul, nI_add])) (by first | with_reducible assumption | (simp [alen] <;> omega)) (by decide) rfl dX3_entitle_168 (esA (by decide) (by decide)) ?_
                refine r_aload_n X dX3_entitle_169 (i := 0) rfl rfl ?_
                refine r_get X kc3 (j := 23) (hw.2 _ _ (by first | decide | (simp [cnt] <;> omega))) ev3 (by decide) rfl fl_X3_62 dX3_entitle_170 ?_
                refine r_aload_n X dX3_entitle_173 (i := 0) rfl rfl ?_
                refine r_get X kc3 (j := 3) (hw.2 _ _ (by first | decide | (simp [cnt] <;> omega))) ev3 (by decide) rfl fl_X3_86 dX3_entitle_174 ?_
                simp only [mo_3_1, mo_3_3, mo_10, mo_11, mo_12, mo_13, mo_14, mo_15, mo_16, mo_21, mo_22, mo_23, mo_24, mo_25, mo_26, mo_27, mo_28]
                refine r_bipush X dX3_entitle_177 (v := nI 10) (by decide) ?_
                refine r_iast X (hw.2 _ _ (by first | decide | (simp [cnt] <;> omega))) (evA (by decide) (by decide)) (by first | with_reducible rfl | with_reducible assumption | (rw [pk_mul, nI_add])) (by first | with_reducible assumption | (simp [alen] <;> omega)) (by decide) rfl dX3_entitle_179 (esA (by decide) (by decide)) ?_
                refine r_aload_n X dX3_entitle_180 (i := 0) rfl rfl ?_
                refine r_dup X dX3_entitle_181 rfl ?_
                refine r_get X kc3 (j := 3) (hw.2 _ _ (by first | decide | (simp [cnt] <;> omega))) ev3 (by decide) rfl fl_X3_86 dX3_entitle_182 ?_
                simp only [mo_3_1, mo_3_3, mo_10, mo_11, mo_12, mo_13, mo_14, mo_15, mo_16, mo_21, mo_22, mo_23, mo_24, mo_25, mo_26, mo_27, mo_28]
                refine r_dup_x1 X dX3_entitle_185 rfl rfl ?_
                refine r_iconst X dX3_entitle_186 (v := nI 1) (by decide) ?_
                refine r_iadd X dX3_entitle_187 ?_
                refine r_put X kc3 (j := 3) (hw.2 _ _ (by first | decide | (simp [cnt] <;> omega))) ev3 (by decide) (Nat.le_of_ble_eq_true rfl) fl_X3_86 rfl rfl rfl dX3_entitle_188 es_3_3 ?_
                refine r_iret X dX3_entitle_191 (by first | decide | (simp only [rmv]; omega)) (by first | decide | (simp only [rmv]; omega)) ?_
                first | with_reducible rfl | (first | (simp [nEntitle, mfE, met, fillN, er, h1, h2, h3, h4, h5, h6, h7]; done) | (simp [nEntitle, mfE, met, fillN, er, tM, ms_o, ms_s, h1, h2, h3, h4, h5, h6, h7]; done) | (simp [nEntitle, mfE, met, fillN, er, ms_s, h1, h2, h3, h4, h5, h6, h7]; done) | (simp [nEntitle, mfE, met, fillN, er, ms_s, h1, h2, h3, h4, h5, h6, h7]; simp [tM, ms_o]; done); done) | contradiction | with_reducible assumption
              · refine r_aload_n X dX3_entitle_85 (i := 0) rfl rfl ?_
                refine r_iconst X dX3_entitle_86 (v := nI 2) (by decide) ?_
                refine r_callV X (c_X3_fail hnt hw ) mw_X3_fail kc3 mi_X3_fail (hw.2 _ _ (by first | decide | (simp [cnt] <;> omega))) ev3 ml_X3_93 rfl rfl (Nat.le_of_ble_eq_true rfl) (by first | decide | (simp only [rmv]; omega)) (by first | decide | (simp only [rmv]; omega)) (by first | decide | (simp only [rmv]; omega)) (by first | decide | (simp only [rmv]; omega)) dX3_entitle_87 (ko1 ?_)
                refine r_iret X dX3_entitle_90 (by first | decide | (simp only [rmv]; omega)) (by first | decide | (simp only [rmv]; omega)) ?_
                first | with_reducible rfl | (first | (simp [nEntitle, mfE, met, fillN, er, h1, h2, h3, h4, h5, h6, h7]; done) | (simp [nEntitle, mfE, met, fillN, er, tM, ms_o, ms_s, h1, h2, h3, h4, h5, h6, h7]; done) | (simp [nEntitle, mfE, met, fillN, er, ms_s, h1, h2, h3, h4, h5, h6, h7]; done) | (simp [nEntitle, mfE, met, fillN, er, ms_s, h1, h2, h3, h4, h5, h6, h7]; simp [tM, ms_o]; done); done) | contradiction | with_reducible assumption
            · refine r_aload_n X dX3_entitle_71 (i := 0) rfl rfl ?_
              refine r_iconst X dX3_entitle_72 (v := nI 1) (by decide) ?_
              refine r_callV X (c_X3_fail hnt hw ) mw_X3_fail kc3 mi_X3_fail (hw.2 _ _ (by first | decide | (simp [cnt] <;> omega))) ev3 ml_X3_93 rfl rfl (Nat.le_of_ble_eq_true rfl) (by first | decide | (simp only [rmv]; omega)) (by first | decide | (simp only [rmv]; omega)) (by first | decide | (simp only [rmv]; omega)) (by first | decide | (simp only [rmv]; omega)) dX3_entitle_73 (ko1 ?_)
              refine r_iret X dX3_entitle_76 (by first | decide | (simp only [rmv]; omega)) (by first | decide | (simp only [rmv]; omega)) ?_
              first | with_reducible rfl | (first | (simp [nEntitle, mfE, met, fillN, er, h1, h2, h3, h4, h5, h6]; done) | (simp [nEntitle, mfE, met, fillN, er, tM, ms_o, ms_s, h1, h2, h3, h4, h5, h6]; done) | (simp [nEntitle, mfE, met, fillN, er, ms_s, h1, h2, h3, h4, h5, h6]; done) | (simp [nEntitle, mfE, met, fillN, er, ms_s, h1, h2, h3, h4, h5, h6]; simp [tM, ms_o]; done); done) | contradiction | with_reducible assumption
        · refine r_iload X dX3_entitle_36 rfl ?_
          refine r_bipush X dX3_entitle_38 (v := nI 117) (by decide) ?_
          first | with_reducible refine r_icmpn_eq X dX3_entitle_40 (tgt := 50) (by decide) (by omega) (by omega) (fun h8 => ?_) (fun h8 => ?_) | refine r_icmp_eq X dX3_entitle_40 (tgt := 50) (by decide) (fun h8 => ?_) (fun h8 => ?_)
          · refine r_iload X dX3_entitle_50 rfl ?_
            refine r_iconst X dX3_entitle_52 (v := nI 0) (by decide) ?_
            refine r_bipush X dX3_entitle_53 (v := nI 99) (by decide) ?_
            refine r_callS X (c_X3_isIn hnt hw ) mw_X3_isIn mi_X3_isIn ml_X3_89 rfl rfl (Nat.le_of_ble_eq_true rfl) (by first | decide | (simp only [rmv]; omega)) (by first | decide | (simp only [rmv]; omega)) (by first | decide | (simp only [rmv]; omega)) (by first | decide | (simp only [rmv]; omega)) dX3_entitle_55 (ko1 ?_)
            first | with_reducible refine r_ifb_eq X dX3_entitle_58 (tgt := 71) (by decide) (fun h9 => ?_) (fun h9 => ?_) | refine r_if_eq X dX3_entitle_58 (tgt := 71) (by decide) (fun h9 => ?_) (fun h9 => ?_)
            · refine r_aload_n X dX3_entitle_71 (i := 0) rfl rfl ?_
              refine r_iconst X dX3_entitle_72 (v := nI 1) (by decide) ?_
              refine r_callV X (c_X3_fail hnt hw ) mw_X3_fail kc3 mi_X3_fail (hw.2 _ _ (by first | decide | (simp [cnt] <;> omega))) ev3 ml_X3_93 rfl rfl (Nat.le_of_ble_eq_true rfl) (by first | decide | (simp only [rmv]; omega)) (by first | decide | (simp only [rmv]; omega)) (by first | decide | (simp only [rmv]; omega)) (by first | decide | (simp only [rmv]; omega)) dX3_entitle_73 (ko1 ?_)
              refine r_iret X dX3_entitle_76 (by first | decide | (simp only [rmv]; omega)) (by first | decide | (simp only [rmv]; omega)) ?_
              first | with_reducible rfl | (first | (simp [nEntitle, mfE, met, fillN, er, h1, h2, h3, h4, h8, h9]; done) | (simp [nEntitle, mfE, met, fillN, er, tM, ms_o, ms_s, h1, h2, h3, h4, h8, h9]; done) | (simp [nEntitle, mfE, met, fillN, er, ms_s, h1, h2, h3, h4, h8, h9]; done) | (simp [nEntitle, mfE, met, fillN, er, ms_s, h1, h2, h3, h4, h8, h9]; simp [tM, ms_o]; done); done) | contradiction | with_reducible assumption
            · refine r_iload X dX3_entitle_61 rfl ?_
              refine r_iconst X dX3_entitle_63 (v := -1) (by decide) ?_
              refine r_iconst X dX3_entitle_64 (v := nI 2) (by decide) ?_
              refine r_callS X (c_X3_isIn hnt hw ) mw_X3_isIn mi_X3_isIn ml_X3_89 rfl rfl (Nat.le_of_ble_eq_true rfl) (by first | decide | (simp only [rmv]; omega)) (by first | decide | (simp only [rmv]; omega)) (by first | decide | (simp only [rmv]; omega)) (by first | decide | (simp only [rmv]; omega)) dX3_entitle_65 (ko1 ?_)
              first | with_reducible refine r_ifb_ne X dX3_entitle_68 (tgt := 77) (by decide) (fun h10 => ?_) (fun h10 => ?_) | refine r_if_ne X dX3_entitle_68 (tgt := 77) (by decide) (fun h10 => ?_) (fun h10 => ?_)
              · refine r_aload_n X dX3_entitle_77 (i := 0) rfl rfl ?_
                refine r_get X kc3 (j := 3) (hw.2 _ _ (by first | decide | (simp [cnt] <;> omega))) ev3 (by decide) rfl fl_X3_86 dX3_entitle_78 ?_
                refine r_iconst X dX3_entitle_81 (v := nI 5) (by decide) ?_
                first | with_reducible refine r_icmpn_ne X dX3_entitle_82 (tgt := 91) (by decide) (by omega) (by omega) (fun h11 => ?_) (fun h11 => ?_) | refine r_icmp_ne X dX3_entitle_82 (tgt := 91) (by decide) (fun h11 => ?_) (fun h11 => ?_)
                · have hm1 := hD.2.2.1.1
                  have hm2 : ix (M 3 0 3) < 5 := by
                    have h13 := hD.2.2.1.2
                    rcases Nat.lt_or_ge (ix (M 3 0 3)) 5 with q | q
                    · exact q
                    · exact absurd (by rw [hm1, show ix (M 3 0 3) = 5 by omega]) h11
                  refine r_aload_n X dX3_entitle_91 (i := 0) rfl rfl ?_
                  refine r_iconst X dX3_entitle_92 (v := nI 0) (by decide) ?_
                  refine r_put X kc3 (j := 0) (hw.2 _ _ (by first | decide | (simp [cnt] <;> omega))) ev3 (by decide) (Nat.le_of_ble_eq_true rfl) fl_X3_78 rfl rfl rfl dX3_entitle_93 es_3_0 ?_
                  refine r_aload_n X dX3_entitle_96 (i := 0) rfl rfl ?_
                  refine r_get X kc3 (j := 17) (hw.2 _ _ (by first | decide | (simp [cnt] <;> omega))) ev3 (by decide) rfl fl_X3_44 dX3_entitle_97 ?_
                  refine r_aload_n X dX3_entitle_100 (i := 0) rfl rfl ?_
                  refine r_get X kc3 (j := 3) (hw.2 _ _ (by first | decide | (simp [cnt] <;> omega))) ev3 (by decide) rfl fl_X3_86 dX3_entitle_101 ?_
                  simp only [mo_3_1, mo_3_3, mo_10, mo_11, mo_12, mo_13, mo_14, mo_15, mo_16, mo_21, mo_22, mo_23, mo_24, mo_25, mo_26, mo_27, mo_28]
                  refine r_iload_n X dX3_entitle_104 (i := 1) rfl rfl ?_
                  refine r_iast X (hw.2 _ _ (by first | decide | (simp [cnt] <;> omega))) (evA (by decide) (by decide)) (by first | with_reducible rfl | with_reducible assumption | (rw [pk_mul, nI_add])) (by first | with_reducible assumption | (simp [alen] <;> omega)) (by decide) rfl dX3_entitle_105 (esA (by decide) (by decide)) ?_
                  refine r_aload_n X dX3_entitle_106 (i := 0) rfl rfl ?_
                  refine r_get X kc3 (j := 18) (hw.2 _ _ (by first | decide | (simp [cnt] <;> omega))) ev3 (by decide) rfl fl_X3_47 dX3_entitle_107 ?_
                  refine r_aload_n X dX3_entitle_110 (i := 0) rfl rfl ?_
                  refine r_get X kc3 (j := 3) (hw.2 _ _ (by first | decide | (simp [cnt] <;> omega))) ev3 (by decide) rfl fl_X3_86 dX3_entitle_111 ?_
                  simp only [mo_3_1, mo_3_3, mo_10, mo_11, mo_12, mo_13, mo_14, mo_15, mo_16, mo_21, mo_22, mo_23, mo_24, mo_25, mo_26, mo_27, mo_28]
                  refine r_iload_n X dX3_entitle_114 (i := 2) rfl rfl ?_
                  refine r_iast X (hw.2 _ _ (by first | decide | (simp [cnt] <;> omega))) (evA (by decide) (by decide)) (by first | with_reducible rfl | with_reducible assumption | (rw [pk_mul, nI_add])) (by first | with_reducible assumption | (simp [alen] <;> omega)) (by decide) rfl dX3_entitle_115 (esA (by decide) (by decide)) ?_
                  refine r_aload_n X dX3_entitle_116 (i := 0) rfl rfl ?_
                  refine r_get X kc3 (j := 19) (hw.2 _ _ (by first | decide | (simp [cnt] <;> omega))) ev3 (by decide) rfl fl_X3_50 dX3_entitle_117 ?_
                  refine r_aload_n X dX3_entitle_120 (i := 0) rfl rfl ?_
                  refine r_get X kc3 (j := 3) (hw.2 _ _ (by first | decide | (simp [cnt] <;> omega))) ev3 (by decide) rfl fl_X3_86 dX3_entitle_121 ?_
                  simp only [mo_3_1, mo_3_3, mo_10, mo_11, mo_12, mo_13, mo_14, mo_15, mo_16, mo_21, mo_22, mo_23, mo_24, mo_25, mo_26, mo_27, mo_28]
                  refine r_iload_n X dX3_entitle_124 (i := 3) rfl rfl ?_
                  refine r_iast X (hw.2 _ _ (by first | decide | (simp [cnt] <;> omega))) (evA (by decide) (by decide)) (by first | with_reducible rfl | with_reducible assumption | (rw [pk_mul, nI_add])) (by first | with_reducible assumption | (simp [alen] <;> omega)) (by decide) rfl dX3_entitle_125 (esA (by decide) (by decide)) ?_
                  refine r_aload_n X dX3_entitle_126 (i := 0) rfl rfl ?_
                  refine r_get X kc3 (j := 24) (hw.2 _ _ (by first | decide | (simp [cnt] <;> omega))) ev3 (by decide) rfl fl_X3_65 dX3_entitle_127 ?_
                  refine r_aload_n X dX3_entitle_130 (i := 0) rfl rfl ?_
                  refine r_get X kc3 (j := 3) (hw.2 _ _ (by first | decide | (simp [cnt] <;> omega))) ev3 (by decide) rfl fl_X3_86 dX3_entitle_131 ?_
                  simp only [mo_3_1, mo_3_3, mo_10, mo_11, mo_12, mo_13, mo_14, mo_15, mo_16, mo_21, mo_22, mo_23, mo_24, mo_25, mo_26, mo_27, mo_28]
                  refine r_iload X dX3_entitle_134 rfl ?_
                  refine r_cast X (hw.2 _ _ (by first | decide | (simp [cnt] <;> omega))) (evA (by decide) (by decide)) (by first | with_reducible rfl | with_reducible assumption | (rw [pk_mul, nI_add])) (by first | with_reducible assumption | (simp [alen] <;> omega)) (by decide) (by assumption) dX3_entitle_136 (esA (by decide) (by decide)) ?_
                  refine r_aload_n X dX3_entitle_137 (i := 0) rfl rfl ?_
                  refine r_get X kc3 (j := 20) (hw.2 _ _ (by first | decide | (simp [cnt] <;> omega))) ev3 (by decide) rfl fl_X3_53 dX3_entitle_138 ?_
                  refine r_aload_n X dX3_entitle_141 (i := 0) rfl rfl ?_
                  refine r_get X kc3 (j := 3) (hw.2 _ _ (by first | decide | (simp [cnt] <;> omega))) ev3 (by decide) rfl fl_X3_86 dX3_entitle_142 ?_
                  simp only [mo_3_1, mo_3_3, mo_10, mo_11, mo_12, mo_13, mo_14, mo_15, mo_16, mo_21, mo_22, mo_23, mo_24, mo_25, mo_26, mo_27, mo_28]
                  refine r_iload X dX3_entitle_145 rfl ?_
                  refine r_iast X (hw.2 _ _ (by first | decide | (simp [cnt] <;> omega))) (evA (by decide) (by decide)) (by first | with_reducible rfl | with_reducible assumption | (rw [pk_mul, nI_add])) (by first | with_reducible assumption | (simp [alen] <;> omega)) (by decide) rfl dX3_entitle_147 (esA (by decide) (by decide)) ?_
                  refine r_aload_n X dX3_entitle_148 (i := 0) rfl rfl ?_
                  refine r_get X kc3 (j := 21) (hw.2 _ _ (by first | decide | (simp [cnt] <;> omega))) ev3 (by decide) rfl fl_X3_56 dX3_entitle_149 ?_
                  refine r_aload_n X dX3_entitle_152 (i := 0) rfl rfl ?_
                  refine r_get X kc3 (j := 3) (hw.2 _ _ (by first | decide | (simp [cnt] <;> omega))) ev3 (by decide) rfl fl_X3_86 dX3_entitle_153 ?_
                  simp only [mo_3_1, mo_3_3, mo_10, mo_11, mo_12, mo_13, mo_14, mo_15, mo_16, mo_21, mo_22, mo_23, mo_24, mo_25, mo_26, mo_27, mo_28]
                  refine r_iload X dX3_entitle_156 rfl ?_
                  refine r_iast X (hw.2 _ _ (by first | decide | (simp [cnt] <;> omega))) (evA (by decide) (by decide)) (by first | with_reducible rfl | with_reducible assumption | (rw [pk_mul, nI_add])) (by first | with_reducible assumption | (simp [alen] <;> omega)) (by decide) rfl dX3_entitle_158 (esA (by decide) (by decide)) ?_
                  refine r_aload_n X dX3_entitle_159 (i := 0) rfl rfl ?_
                  refine r_get X kc3 (j := 22) (hw.2 _ _ (by first | decide | (simp [cnt] <;> omega))) ev3 (by decide) rfl fl_X3_59 dX3_entitle_160 ?_
                  refine r_aload_n X dX3_entitle_163 (i := 0) rfl rfl ?_
                  refine r_get X kc3 (j := 3) (hw.2 _ _ (by first | decide | (simp [cnt] <;> omega))) ev3 (by decide) rfl fl_X3_86 dX3_entitle_164 ?_
                  simp only [mo_3_1, mo_3_3, mo_10, mo_11, mo_12, mo_13, mo_14, mo_15, mo_16, mo_21, mo_22, mo_23, mo_24, mo_25, mo_26, mo_27, mo_28]
                  refine r_iconst X dX3_entitle_167 (v := nI 1) (by decide) ?_
                  refine r_iast X (hw.2 _ _ (by first | decide | (simp [cnt] <;> omega))) (evA (by decide) (by decide)) (by first | with_reducible rfl | with_reducible assumption | (rw [pk_mul, nI_add])) (by first | with_reducible assumption | (simp [alen] <;> omega)) (by decide) rfl dX3_entitle_168 (esA (by decide) (by decide)) ?_
                  refine r_aload_n X dX3_entitle_169 (i := 0) rfl rfl ?_
                  refine r_get X kc3 (j := 23) (hw.2 _ _ (by first | decide | (simp [cnt] <;> omega))) ev3 (by decide) rfl fl_X3_62 dX3_entitle_170 ?_
                  refine r_aload_n X dX3_entitle_173 (i := 0) rfl rfl ?_
                  refine r_get X kc3 (j := 3) (hw.2 _ _ (by first | decide | (simp [cnt] <;> omega))) ev3 (by decide) rfl fl_X3_86 dX3_entitle_174 ?_
                  simp only [mo_3_1, mo_3_3, mo_10, mo_11, mo_12, mo_13, mo_14, mo_15, mo_16, mo_21, mo_22, mo_23, mo_24, mo_25, mo_26, mo_27, mo_28]
                  refine r_bipush X dX3_entitle_177 (v := nI 10) (by decide) ?_
                  refine r_iast X (hw.2 _ _ (by first | decide | (simp [cnt] <;> omega))) (evA (by decide) (by decide)) (by first | with_reducible rfl | with_reducible assumption | (rw [pk_mul, nI_add])) (by first | with_reducible assumption | (simp [alen] <;> omega)) (by decide) rfl dX3_entitle_179 (esA (by decide) (by decide)) ?_
                  refine r_aload_n X dX3_entitle_180 (i := 0) rfl rfl ?_
                  refine r_dup X dX3_entitle_181 rfl ?_
                  refine r_get X kc3 (j := 3) (hw.2 _ _ (by first | decide | (simp [cnt] <;> omega))) ev3 (by decide) rfl fl_X3_86 dX3_entitle_182 ?_
                  simp only [mo_3_1, mo_3_3, mo_10, mo_11, mo_12, mo_13, mo_14, mo_15, mo_16, mo_21, mo_22, mo_23, mo_24, mo_25, mo_26, mo_27, mo_28]
                  refine r_dup_x1 X dX3_entitle_185 rfl rfl ?_
                  refine r_iconst X dX3_entitle_186 (v := nI 1) (by decide) ?_
                  refine r_iadd X dX3_entitle_187 ?_
                  refine r_put X kc3 (j := 3) (hw.2 _ _ (by first | decide | (simp [cnt] <;> omega))) ev3 (by decide) (Nat.le_of_ble_eq_true rfl) fl_X3_86 rfl rfl rfl dX3_entitle_188 es_3_3 ?_
                  refine r_iret X dX3_entitle_191 (by first | decide | (simp only [rmv]; omega)) (by first | decide | (simp only [rmv]; omega)) ?_
                  first | with_reducible rfl | (first | (simp [nEntitle, mfE, met, fillN, er, h1, h2, h3, h4, h8, h9, h10, h11]; done) | (simp [nEntitle, mfE, met, fillN, er, tM, ms_o, ms_s, h1, h2, h3, h4, h8, h9, h10, h11]; done) | (simp [nEntitle, mfE, met, fillN, er, ms_s, h1, h2, h3, h4, h8, h9, h10, h11]; done) | (simp [nEntitle, mfE, met, fillN, er, ms_s, h1, h2, h3, h4, h8, h9, h10, h11]; simp [tM, ms_o]; done); done) | contradiction | with_reducible assumption
                · refine r_aload_n X dX3_entitle_85 (i := 0) rfl rfl ?_
                  refine r_iconst X dX3_entitle_86 (v := nI 2) (by decide) ?_
                  refine r_callV X (c_X3_fail hnt hw ) mw_X3_fail kc3 mi_X3_fail (hw.2 _ _ (by first | decide | (simp [cnt] <;> omega))) ev3 ml_X3_93 rfl rfl (Nat.le_of_ble_eq_true rfl) (by first | decide | (simp only [rmv]; omega)) (by first | decide | (simp only [rmv]; omega)) (by first | decide | (simp only [rmv]; omega)) (by first | decide | (simp only [rmv]; omega)) dX3_entitle_87 (ko1 ?_)
                  refine r_iret X dX3_entitle_90 (by first | decide | (simp only [rmv]; omega)) (by first | decide | (simp only [rmv]; omega)) ?_
                  first | with_reducible rfl | (first | (simp [nEntitle, mfE, met, fillN, er, h1, h2, h3, h4, h8, h9, h10, h11]; done) | (simp [nEntitle, mfE, met, fillN, er, tM, ms_o, ms_s, h1, h2, h3, h4, h8, h9, h10, h11]; done) | (simp [nEntitle, mfE, met, fillN, er, ms_s, h1, h2, h3, h4, h8, h9, h10, h11]; done) | (simp [nEntitle, mfE, met, fillN, er, ms_s, h1, h2, h3, h4, h8, h9, h10, h11]; simp [tM, ms_o]; done); done) | contradiction | with_reducible assumption
              · refine r_aload_n X dX3_entitle_71 (i := 0) rfl rfl ?_
                refine r_iconst X dX3_entitle_72 (v := nI 1) (by decide) ?_
                refine r_callV X (c_X3_fail hnt hw ) mw_X3_fail kc3 mi_X3_fail (hw.2 _ _ (by first | decide | (simp [cnt] <;> omega))) ev3 ml_X3_93 rfl rfl (Nat.le_of_ble_eq_true rfl) (by first | decide | (simp only [rmv]; omega)) (by first | decide | (simp only [rmv]; omega)) (by first | decide | (simp only [rmv]; omega)) (by first | decide | (simp only [rmv]; omega)) dX3_entitle_73 (ko1 ?_)
                refine r_iret X dX3_entitle_76 (by first | decide | (simp only [rmv]; omega)) (by first | decide | (simp only [rmv]; omega)) ?_
                first | with_reducible rfl | (first | (simp [nEntitle, mfE, met, fillN, er, h1, h2, h3, h4, h8, h9, h10]; done) | (simp [nEntitle, mfE, met, fillN, er, tM, ms_o, ms_s, h1, h2, h3, h4, h8, h9, h10]; done) | (simp [nEntitle, mfE, met, fillN, er, ms_s, h1, h2, h3, h4, h8, h9, h10]; done) | (simp [nEntitle, mfE, met, fillN, er, ms_s, h1, h2, h3, h4, h8, h9, h10]; simp [tM, ms_o]; done); done) | contradiction | with_reducible assumption
          · refine r_iload X dX3_entitle_43 rfl ?_
            refine r_bipush X dX3_entitle_45 (v := nI 99) (by decide) ?_
            first | with_reducible refine r_icmpn_ne X dX3_entitle_47 (tgt := 71) (by decide) (by omega) (by omega) (fun h12 => ?_) (fun h12 => ?_) | refine r_icmp_ne X dX3_entitle_47 (tgt := 71) (by decide) (fun h12 => ?_) (fun h12 => ?_)
            · refine r_aload_n X dX3_entitle_71 (i := 0) rfl rfl ?_
              refine r_iconst X dX3_entitle_72 (v := nI 1) (by decide) ?_
              refine r_callV X (c_X3_fail hnt hw ) mw_X3_fail kc3 mi_X3_fail (hw.2 _ _ (by first | decide | (simp [cnt] <;> omega))) ev3 ml_X3_93 rfl rfl (Nat.le_of_ble_eq_true rfl) (by first | decide | (simp only [rmv]; omega)) (by first | decide | (simp only [rmv]; omega)) (by first | decide | (simp only [rmv]; omega)) (by first | decide | (simp only [rmv]; omega)) dX3_entitle_73 (ko1 ?_)
              refine r_iret X dX3_entitle_76 (by first | decide | (simp only [rmv]; omega)) (by first | decide | (simp only [rmv]; omega)) ?_
              first | with_reducible rfl | (first | (simp [nEntitle, mfE, met, fillN, er, h1, h2, h3, h4, h8, h12]; done) | (simp [nEntitle, mfE, met, fillN, er, tM, ms_o, ms_s, h1, h2, h3, h4, h8, h12]; done) | (simp [nEntitle, mfE, met, fillN, er, ms_s, h1, h2, h3, h4, h8, h12]; done) | (simp [nEntitle, mfE, met, fillN, er, ms_s, h1, h2, h3, h4, h8, h12]; simp [tM, ms_o]; done); done) | contradiction | with_reducible assumption
            · refine r_iload X dX3_entitle_50 rfl ?_
              refine r_iconst X dX3_entitle_52 (v := nI 0) (by decide) ?_
              refine r_bipush X dX3_entitle_53 (v := nI 99) (by decide) ?_
              refine r_callS X (c_X3_isIn hnt hw ) mw_X3_isIn mi_X3_isIn ml_X3_89 rfl rfl (Nat.le_of_ble_eq_true rfl) (by first | decide | (simp only [rmv]; omega)) (by first | decide | (simp only [rmv]; omega)) (by first | decide | (simp only [rmv]; omega)) (by first | decide | (simp only [rmv]; omega)) dX3_entitle_55 (ko1 ?_)
              first | with_reducible refine r_ifb_eq X dX3_entitle_58 (tgt := 71) (by decide) (fun h13 => ?_) (fun h13 => ?_) | refine r_if_eq X dX3_entitle_58 (tgt := 71) (by decide) (fun h13 => ?_) (fun h13 => ?_)
              · refine r_aload_n X dX3_entitle_71 (i := 0) rfl rfl ?_
                refine r_iconst X dX3_entitle_72 (v := nI 1) (by decide) ?_
                refine r_callV X (c_X3_fail hnt hw ) mw_X3_fail kc3 mi_X3_fail (hw.2 _ _ (by first | decide | (simp [cnt] <;> omega))) ev3 ml_X3_93 rfl rfl (Nat.le_of_ble_eq_true rfl) (by first | decide | (simp only [rmv]; omega)) (by first | decide | (simp only [rmv]; omega)) (by first | decide | (simp only [rmv]; omega)) (by first | decide | (simp only [rmv]; omega)) dX3_entitle_73 (ko1 ?_)
                refine r_iret X dX3_entitle_76 (by first | decide | (simp only [rmv]; omega)) (by first | decide | (simp only [rmv]; omega)) ?_
                first | with_reducible rfl | (first | (simp [nEntitle, mfE, met, fillN, er, h1, h2, h3, h4, h8, h12, h13]; done) | (simp [nEntitle, mfE, met, fillN, er, tM, ms_o, ms_s, h1, h2, h3, h4, h8, h12, h13]; done) | (simp [nEntitle, mfE, met, fillN, er, ms_s, h1, h2, h3, h4, h8, h12, h13]; done) | (simp [nEntitle, mfE, met, fillN, er, ms_s, h1, h2, h3, h4, h8, h12, h13]; simp [tM, ms_o]; done); done) | contradiction | with_reducible assumption
              · refine r_iload X dX3_entitle_61 rfl ?_
                refine r_iconst X dX3_entitle_63 (v := -1) (by decide) ?_
                refine r_iconst X dX3_entitle_64 (v := nI 2) (by decide) ?_
                refine r_callS X (c_X3_isIn hnt hw ) mw_X3_isIn mi_X3_isIn ml_X3_89 rfl rfl (Nat.le_of_ble_eq_true rfl) (by first | decide | (simp only [rmv]; omega)) (by first | decide | (simp only [rmv]; omega)) (by first | decide | (simp only [rmv]; omega)) (by first | decide | (simp only [rmv]; omega)) dX3_entitle_65 (ko1 ?_)
                first | with_reducible refine r_ifb_ne X dX3_entitle_68 (tgt := 77) (by decide) (fun h14 => ?_) (fun h14 => ?_) | refine r_if_ne X dX3_entitle_68 (tgt := 77) (by decide) (fun h14 => ?_) (fun h14 => ?_)
                · refine r_aload_n X dX3_entitle_77 (i := 0) rfl rfl ?_
                  refine r_get X kc3 (j := 3) (hw.2 _ _ (by first | decide | (simp [cnt] <;> omega))) ev3 (by decide) rfl fl_X3_86 dX3_entitle_78 ?_
                  refine r_iconst X dX3_entitle_81 (v := nI 5) (by decide) ?_
                  first | with_reducible refine r_icmpn_ne X dX3_entitle_82 (tgt := 91) (by decide) (by omega) (by omega) (fun h15 => ?_) (fun h15 => ?_) | refine r_icmp_ne X dX3_entitle_82 (tgt := 91) (by decide) (fun h15 => ?_) (fun h15 => ?_)
                  · have hm1 := hD.2.2.1.1
                    have hm2 : ix (M 3 0 3) < 5 := by
                      have h13 := hD.2.2.1.2
                      rcases Nat.lt_or_ge (ix (M 3 0 3)) 5 with q | q
                      · exact q
                      · exact absurd (by rw [hm1, show ix (M 3 0 3) = 5 by omega]) h15
                    refine r_aload_n X dX3_entitle_91 (i := 0) rfl rfl ?_
                    refine r_iconst X dX3_entitle_92 (v := nI 0) (by decide) ?_
                    refine r_put X kc3 (j := 0) (hw.2 _ _ (by first | decide | (simp [cnt] <;> omega))) ev3 (by decide) (Nat.le_of_ble_eq_true rfl) fl_X3_78 rfl rfl rfl dX3_entitle_93 es_3_0 ?_
                    refine r_aload_n X dX3_entitle_96 (i := 0) rfl rfl ?_
                    refine r_get X kc3 (j := 17) (hw.2 _ _ (by first | decide | (simp [cnt] <;> omega))) ev3 (by decide) rfl fl_X3_44 dX3_entitle_97 ?_
                    refine r_aload_n X dX3_entitle_100 (i := 0) rfl rfl ?_
                    refine r_get X kc3 (j := 3) (hw.2 _ _ (by first | decide | (simp [cnt] <;> omega))) ev3 (by decide) rfl fl_X3_86 dX3_entitle_101 ?_
                    simp only [mo_3_1, mo_3_3, mo_10, mo_11, mo_12, mo_13, mo_14, mo_15, mo_16, mo_21, mo_22, mo_23, mo_24, mo_25, mo_26, mo_27, mo_28]
                    refine r_iload_n X dX3_entitle_104 (i := 1) rfl rfl ?_
                    refine r_iast X (hw.2 _ _ (by first | decide | (simp [cnt] <;> omega))) (evA (by decide) (by decide)) (by first | with_reducible rfl | with_reducible assumption | (rw [pk_mul, nI_add])) (by first | with_reducible assumption | (simp [alen] <;> omega)) (by decide) rfl dX3_entitle_105 (esA (by decide) (by decide)) ?_
                    refine r_aload_n X dX3_entitle_106 (i := 0) rfl rfl ?_
                    refine r_get X kc3 (j := 18) (hw.2 _ _ (by first | decide | (simp [cnt] <;> omega))) ev3 (by decide) rfl fl_X3_47 dX3_entitle_107 ?_
                    refine r_aload_n X dX3_entitle_110 (i := 0) rfl rfl ?_
                    refine r_get X kc3 (j := 3) (hw.2 _ _ (by first | decide | (simp [cnt] <;> omega))) ev3 (by decide) rfl fl_X3_86 dX3_entitle_111 ?_
                    simp only [mo_3_1, mo_3_3, mo_10, mo_11, mo_12, mo_13, mo_14, mo_15, mo_16, mo_21, mo_22, mo_23, mo_24, mo_25, mo_26, mo_27, mo_28]
                    refine r_iload_n X dX3_entitle_114 (i := 2) rfl rfl ?_
                    refine r_iast X (hw.2 _ _ (by first | decide | (simp [cnt] <;> omega))) (evA (by decide) (by decide)) (by first | with_reducible rfl | with_reducible assumption | (rw [pk_mul, nI_add])) (by first | with_reducible assumption | (simp [alen] <;> omega)) (by decide) rfl dX3_entitle_115 (esA (by decide) (by decide)) ?_
                    refine r_aload_n X dX3_entitle_116 (i := 0) rfl rfl ?_
                    refine r_get X kc3 (j := 19) (hw.2 _ _ (by first | decide | (simp [cnt] <;> omega))) ev3 (by decide) rfl fl_X3_50 dX3_entitle_117 ?_
                    refine r_aload_n X dX3_entitle_120 (i := 0) rfl rfl ?_
                    refine r_get X kc3 (j := 3) (hw.2 _ _ (by first | decide | (simp [cnt] <;> omega))) ev3 (by decide) rfl fl_X3_86 dX3_entitle_121 ?_
                    simp only [mo_3_1, mo_3_3, mo_10, mo_11, mo_12, mo_13, mo_14, mo_15, mo_16, mo_21, mo_22, mo_23, mo_24, mo_25, mo_26, mo_27, mo_28]
                    refine r_iload_n X dX3_entitle_124 (i := 3) rfl rfl ?_
                    refine r_iast X (hw.2 _ _ (by first | decide | (simp [cnt] <;> omega))) (evA (by decide) (by decide)) (by first | with_reducible rfl | with_reducible assumption | (rw [pk_mul, nI_add])) (by first | with_reducible assumption | (simp [alen] <;> omega)) (by decide) rfl dX3_entitle_125 (esA (by decide) (by decide)) ?_
                    refine r_aload_n X dX3_entitle_126 (i := 0) rfl rfl ?_
                    refine r_get X kc3 (j := 24) (hw.2 _ _ (by first | decide | (simp [cnt] <;> omega))) ev3 (by decide) rfl fl_X3_65 dX3_entitle_127 ?_
                    refine r_aload_n X dX3_entitle_130 (i := 0) rfl rfl ?_
                    refine r_get X kc3 (j := 3) (hw.2 _ _ (by first | decide | (simp [cnt] <;> omega))) ev3 (by decide) rfl fl_X3_86 dX3_entitle_131 ?_
                    simp only [mo_3_1, mo_3_3, mo_10, mo_11, mo_12, mo_13, mo_14, mo_15, mo_16, mo_21, mo_22, mo_23, mo_24, mo_25, mo_26, mo_27, mo_28]
                    refine r_iload X dX3_entitle_134 rfl ?_
                    refine r_cast X (hw.2 _ _ (by first | decide | (simp [cnt] <;> omega))) (evA (by decide) (by decide)) (by first | with_reducible rfl | with_reducible assumption | (rw [pk_mul, nI_add])) (by first | with_reducible assumption | (simp [alen] <;> omega)) (by decide) (by assumption) dX3_entitle_136 (esA (by decide) (by decide)) ?_
                    refine r_aload_n X dX3_entitle_137 (i := 0) rfl rfl ?_
                    refine r_get X kc3 (j := 20) (hw.2 _ _ (by first | decide | (simp [cnt] <;> omega))) ev3 (by decide) rfl fl_X3_53 dX3_entitle_138 ?_
                    refine r_aload_n X dX3_entitle_141 (i := 0) rfl rfl ?_
                    refine r_get X kc3 (j := 3) (hw.2 _ _ (by first | decide | (simp [cnt] <;> omega))) ev3 (by decide) rfl fl_X3_86 dX3_entitle_142 ?_
                    simp only [mo_3_1, mo_3_3, mo_10, mo_11, mo_12, mo_13, mo_14, mo_15, mo_16, mo_21, mo_22, mo_23, mo_24, mo_25, mo_26, mo_27, mo_28]
                    refine r_iload X dX3_entitle_145 rfl ?_
                    refine r_iast X (hw.2 _ _ (by first | decide | (simp [cnt] <;> omega))) (evA (by decide) (by decide)) (by first | with_reducible rfl | with_reducible assumption | (rw [pk_mul, nI_add])) (by first | with_reducible assumption | (simp [alen] <;> omega)) (by decide) rfl dX3_entitle_147 (esA (by decide) (by decide)) ?_
                    refine r_aload_n X dX3_entitle_148 (i := 0) rfl rfl ?_
                    refine r_get X kc3 (j := 21) (hw.2 _ _ (by first | decide | (simp [cnt] <;> omega))) ev3 (by decide) rfl fl_X3_56 dX3_entitle_149 ?_
                    refine r_aload_n X dX3_entitle_152 (i := 0) rfl rfl ?_
                    refine r_get X kc3 (j := 3) (hw.2 _ _ (by first | decide | (simp [cnt] <;> omega))) ev3 (by decide) rfl fl_X3_86 dX3_entitle_153 ?_
                    simp only [mo_3_1, mo_3_3, mo_10, mo_11, mo_12, mo_13, mo_14, mo_15, mo_16, mo_21, mo_22, mo_23, mo_24, mo_25, mo_26, mo_27, mo_28]
                    refine r_iload X dX3_entitle_156 rfl ?_
                    refine r_iast X (hw.2 _ _ (by first | decide | (simp [cnt] <;> omega))) (evA (by decide) (by decide)) (by first | with_reducible rfl | with_reducible assumption | (rw [pk_mul, nI_add])) (by first | with_reducible assumption | (simp [alen] <;> omega)) (by decide) rfl dX3_entitle_158 (esA (by decide) (by decide)) ?_
                    refine r_aload_n X dX3_entitle_159 (i := 0) rfl rfl ?_
                    refine r_get X kc3 (j := 22) (hw.2 _ _ (by first | decide | (simp [cnt] <;> omega))) ev3 (by decide) rfl fl_X3_59 dX3_entitle_160 ?_
                    refine r_aload_n X dX3_entitle_163 (i := 0) rfl rfl ?_
                    refine r_get X kc3 (j := 3) (hw.2 _ _ (by first | decide | (simp [cnt] <;> omega))) ev3 (by decide) rfl fl_X3_86 dX3_entitle_164 ?_
                    simp only [mo_3_1, mo_3_3, mo_10, mo_11, mo_12, mo_13, mo_14, mo_15, mo_16, mo_21, mo_22, mo_23, mo_24, mo_25, mo_26, mo_27, mo_28]
                    refine r_iconst X dX3_entitle_167 (v := nI 1) (by decide) ?_
                    refine r_iast X (hw.2 _ _ (by first | decide | (simp [cnt] <;> omega))) (evA (by decide) (by decide)) (by first | with_reducible rfl | with_reducible assumption | (rw [pk_mul, nI_add])) (by first | with_reducible assumption | (simp [alen] <;> omega)) (by decide) rfl dX3_entitle_168 (esA (by decide) (by decide)) ?_
                    refine r_aload_n X dX3_entitle_169 (i := 0) rfl rfl ?_
                    refine r_get X kc3 (j := 23) (hw.2 _ _ (by first | decide | (simp [cnt] <;> omega))) ev3 (by decide) rfl fl_X3_62 dX3_entitle_170 ?_
                    refine r_aload_n X dX3_entitle_173 (i := 0) rfl rfl ?_
                    refine r_get X kc3 (j := 3) (hw.2 _ _ (by first | decide | (simp [cnt] <;> omega))) ev3 (by decide) rfl fl_X3_86 dX3_entitle_174 ?_
                    simp only [mo_3_1, mo_3_3, mo_10, mo_11, mo_12, mo_13, mo_14, mo_15, mo_16, mo_21, mo_22, mo_23, mo_24, mo_25, mo_26, mo_27, mo_28]
                    refine r_bipush X dX3_entitle_177 (v := nI 10) (by decide) ?_
                    refine r_iast X (hw.2 _ _ (by first | decide | (simp [cnt] <;> omega))) (evA (by decide) (by decide)) (by first | with_reducible rfl | with_reducible assumption | (rw [pk_mul, nI_add])) (by first | with_reducible assumption | (simp [alen] <;> omega)) (by decide) rfl dX3_entitle_179 (esA (by decide) (by decide)) ?_
                    refine r_aload_n X dX3_entitle_180 (i := 0) rfl rfl ?_
                    refine r_dup X dX3_entitle_181 rfl ?_
                    refine r_get X kc3 (j := 3) (hw.2 _ _ (by first | decide | (simp [cnt] <;> omega))) ev3 (by decide) rfl fl_X3_86 dX3_entitle_182 ?_
                    simp only [mo_3_1, mo_3_3, mo_10, mo_11, mo_12, mo_13, mo_14, mo_15, mo_16, mo_21, mo_22, mo_23, mo_24, mo_25, mo_26, mo_27, mo_28]
                    refine r_dup_x1 X dX3_entitle_185 rfl rfl ?_
                    refine r_iconst X dX3_entitle_186 (v := nI 1) (by decide) ?_
                    refine r_iadd X dX3_entitle_187 ?_
                    refine r_put X kc3 (j := 3) (hw.2 _ _ (by first | decide | (simp [cnt] <;> omega))) ev3 (by decide) (Nat.le_of_ble_eq_true rfl) fl_X3_86 rfl rfl rfl dX3_entitle_188 es_3_3 ?_
                    refine r_iret X dX3_entitle_191 (by first | decide | (simp only [rmv]; omega)) (by first | decide | (simp only [rmv]; omega)) ?_
                    first | with_reducible rfl | (first | (simp [nEntitle, mfE, met, fillN, er, h1, h2, h3, h4, h8, h12, h13, h14, h15]; done) | (simp [nEntitle, mfE, met, fillN, er, tM, ms_o, ms_s, h1, h2, h3, h4, h8, h12, h13, h14, h15]; done) | (simp [nEntitle, mfE, met, fillN, er, ms_s, h1, h2, h3, h4, h8, h12, h13, h14, h15]; done) | (simp [nEntitle, mfE, met, fillN, er, ms_s, h1, h2, h3, h4, h8, h12, h13, h14, h15]; simp [tM, ms_o]; done); done) | contradiction | with_reducible assumption
                  · refine r_aload_n X dX3_entitle_85 (i := 0) rfl rfl ?_
                    refine r_iconst X dX3_entitle_86 (v := nI 2) (by decide) ?_
                    refine r_callV X (c_X3_fail hnt hw ) mw_X3_fail kc3 mi_X3_fail (hw.2 _ _ (by first | decide | (simp [cnt] <;> omega))) ev3 ml_X3_93 rfl rfl (Nat.le_of_ble_eq_true rfl) (by first | decide | (simp only [rmv]; omega)) (by first | decide | (simp only [rmv]; omega)) (by first | decide | (simp only [rmv]; omega)) (by first | decide | (simp only [rmv]; omega)) dX3_entitle_87 (ko1 ?_)
                    refine r_iret X dX3_entitle_90 (by first | decide | (simp only [rmv]; omega)) (by first | decide | (simp only [rmv]; omega)) ?_
                    first | with_reducible rfl | (first | (simp [nEntitle, mfE, met, fillN, er, h1, h2, h3, h4, h8, h12, h13, h14, h15]; done) | (simp [nEntitle, mfE, met, fillN, er, tM, ms_o, ms_s, h1, h2, h3, h4, h8, h12, h13, h14, h15]; done) | (simp [nEntitle, mfE, met, fillN, er, ms_s, h1, h2, h3, h4, h8, h12, h13, h14, h15]; done) | (simp [nEntitle, mfE, met, fillN, er, ms_s, h1, h2, h3, h4, h8, h12, h13, h14, h15]; simp [tM, ms_o]; done); done) | contradiction | with_reducible assumption
                · refine r_aload_n X dX3_entitle_71 (i := 0) rfl rfl ?_
                  refine r_iconst X dX3_entitle_72 (v := nI 1) (by decide) ?_
                  refine r_callV X (c_X3_fail hnt hw ) mw_X3_fail kc3 mi_X3_fail (hw.2 _ _ (by first | decide | (simp [cnt] <;> omega))) ev3 ml_X3_93 rfl rfl (Nat.le_of_ble_eq_true rfl) (by first | decide | (simp only [rmv]; omega)) (by first | decide | (simp only [rmv]; omega)) (by first | decide | (simp only [rmv]; omega)) (by first | decide | (simp only [rmv]; omega)) dX3_entitle_73 (ko1 ?_)
                  refine r_iret X dX3_entitle_76 (by first | decide | (simp only [rmv]; omega)) (by first | decide | (simp only [rmv]; omega)) ?_
                  first | with_reducible rfl | (first | (simp [nEntitle, mfE, met, fillN, er, h1, h2, h3, h4, h8, h12, h13, h14]; done) | (simp [nEntitle, mfE, met, fillN, er, tM, ms_o, ms_s, h1, h2, h3, h4, h8, h12, h13, h14]; done) | (simp [nEntitle, mfE, met, fillN, er, ms_s, h1, h2, h3, h4, h8, h12, h13, h14]; done) | (simp [nEntitle, mfE, met, fillN, er, ms_s, h1, h2, h3, h4, h8, h12, h13, h14]; simp [tM, ms_o]; done); done) | contradiction | with_reducible assumption

set_option maxHeartbeats 4000000 in
set_option maxRecDepth 100000 in
theorem c_X3_setRights {l : Launch} {w : Wo} {M : Mem} {G : Lng} {x : Int32} {a9 b9 c9 : Bool} (hnt : l.stackTraces = false) (hw : WK w) (hD : DM M) : CT l yX3_setRights [Cond.code yX3_setRights cX3_setRights 6 (some .int)] 7 0 0 w [.ref (w.1 (3, 0)), .int x, .int (bi a9), .int (bi b9), .int (bi c9)] M G (nSetRights M G x a9 b9 c9) := by
  refine CT_of hnt hw.1 mw_X3_setRights (by simp [Value.category]) (Nat.le_of_ble_eq_true rfl) (fun p e s m args below meth c X => ?_)
  refine r_aload_n X dX3_setRights_0 (i := 0) rfl rfl ?_
  refine r_iload_n X dX3_setRights_1 (i := 1) rfl rfl ?_
  refine r_callV X (c_X3_noEntitlement hnt hw ) mw_X3_noEntitlement kc3 mi_X3_noEntitlement (hw.2 _ _ (by first | decide | (simp [cnt] <;> omega))) ev3 ml_X3_106 rfl rfl (Nat.le_of_ble_eq_true rfl) (by first | decide | (simp only [rmv]; omega)) (by first | decide | (simp only [rmv]; omega)) (by first | decide | (simp only [rmv]; omega)) (by first | decide | (simp only [rmv]; omega)) dX3_setRights_2 (ko1 ?_)
  first | with_reducible refine r_ifb_eq X dX3_setRights_5 (tgt := 10) (by decide) (fun h1 => ?_) (fun h1 => ?_) | refine r_if_eq X dX3_setRights_5 (tgt := 10) (by decide) (fun h1 => ?_) (fun h1 => ?_)
  · rw [h1]
    have hy1 := (nte_Rg hD h1).1
    have hy2 := (nte_Rg hD h1).2
    refine r_aload_n X dX3_setRights_10 (i := 0) rfl rfl ?_
    refine r_get X kc3 (j := 14) (hw.2 _ _ (by first | decide | (simp [cnt] <;> omega))) ev3 (by decide) rfl fl_X3_35 dX3_setRights_11 ?_
    refine r_iload_n X dX3_setRights_14 (i := 1) rfl rfl ?_
    refine r_zald X (hw.2 _ _ (by first | decide | (simp [cnt] <;> omega))) (evA (by decide) (by decide)) (by first | with_reducible rfl | with_reducible assumption | (rw [pk_mul, nI_add])) (by first | with_reducible assumption | (simp [alen] <;> omega)) (by decide) dX3_setRights_15 ?_
    first | with_reducible refine r_ifb_eq X dX3_setRights_16 (tgt := 23) (by decide) (fun h2 => ?_) (fun h2 => ?_) | refine r_if_eq X dX3_setRights_16 (tgt := 23) (by decide) (fun h2 => ?_) (fun h2 => ?_)
    · refine r_iconst X dX3_setRights_23 (v := nI 0) (by decide) ?_
      refine r_aload_n X dX3_setRights_24 (i := 0) rfl rfl ?_
      refine r_get X kc3 (j := 15) (hw.2 _ _ (by first | decide | (simp [cnt] <;> omega))) ev3 (by decide) rfl fl_X3_38 dX3_setRights_25 ?_
      refine r_iload_n X dX3_setRights_28 (i := 1) rfl rfl ?_
      refine r_zald X (hw.2 _ _ (by first | decide | (simp [cnt] <;> omega))) (evA (by decide) (by decide)) (by first | with_reducible rfl | with_reducible assumption | (rw [pk_mul, nI_add])) (by first | with_reducible assumption | (simp [alen] <;> omega)) (by decide) dX3_setRights_29 ?_
      first | with_reducible refine r_ifb_eq X dX3_setRights_30 (tgt := 37) (by decide) (fun h3 => ?_) (fun h3 => ?_) | refine r_if_eq X dX3_setRights_30 (tgt := 37) (by decide) (fun h3 => ?_) (fun h3 => ?_)
      · refine r_iconst X dX3_setRights_37 (v := nI 0) (by decide) ?_
        refine r_iadd X dX3_setRights_38 ?_
        refine r_aload_n X dX3_setRights_39 (i := 0) rfl rfl ?_
        refine r_get X kc3 (j := 16) (hw.2 _ _ (by first | decide | (simp [cnt] <;> omega))) ev3 (by decide) rfl fl_X3_41 dX3_setRights_40 ?_
        refine r_iload_n X dX3_setRights_43 (i := 1) rfl rfl ?_
        refine r_zald X (hw.2 _ _ (by first | decide | (simp [cnt] <;> omega))) (evA (by decide) (by decide)) (by first | with_reducible rfl | with_reducible assumption | (rw [pk_mul, nI_add])) (by first | with_reducible assumption | (simp [alen] <;> omega)) (by decide) dX3_setRights_44 ?_
        first | with_reducible refine r_ifb_eq X dX3_setRights_45 (tgt := 52) (by decide) (fun h4 => ?_) (fun h4 => ?_) | refine r_if_eq X dX3_setRights_45 (tgt := 52) (by decide) (fun h4 => ?_) (fun h4 => ?_)
        · refine r_iconst X dX3_setRights_52 (v := nI 0) (by decide) ?_
          refine r_iadd X dX3_setRights_53 ?_
          refine r_istore X dX3_setRights_54 (by decide) rfl ?_
          refine r_aload_n X dX3_setRights_56 (i := 0) rfl rfl ?_
          refine r_get X kc3 (j := 14) (hw.2 _ _ (by first | decide | (simp [cnt] <;> omega))) ev3 (by decide) rfl fl_X3_35 dX3_setRights_57 ?_
          refine r_iload_n X dX3_setRights_60 (i := 1) rfl rfl ?_
          refine r_iload_n X dX3_setRights_61 (i := 2) rfl rfl ?_
          refine r_zast X (hw.2 _ _ (by first | decide | (simp [cnt] <;> omega))) (evA (by decide) (by decide)) (by first | with_reducible rfl | with_reducible assumption | (rw [pk_mul, nI_add])) (by first | with_reducible assumption | (simp [alen] <;> omega)) (by decide) (by first | with_reducible exact vzb _ | exact vz1 | rfl) dX3_setRights_62 (esA (by decide) (by decide)) ?_
          refine r_aload_n X dX3_setRights_63 (i := 0) rfl rfl ?_
          refine r_get X kc3 (j := 15) (hw.2 _ _ (by first | decide | (simp [cnt] <;> omega))) ev3 (by decide) rfl fl_X3_38 dX3_setRights_64 ?_
          refine r_iload_n X dX3_setRights_67 (i := 1) rfl rfl ?_
          refine r_iload_n X dX3_setRights_68 (i := 3) rfl rfl ?_
          refine r_zast X (hw.2 _ _ (by first | decide | (simp [cnt] <;> omega))) (evA (by decide) (by decide)) (by first | with_reducible rfl | with_reducible assumption | (rw [pk_mul, nI_add])) (by first | with_reducible assumption | (simp [alen] <;> omega)) (by decide) (by first | with_reducible exact vzb _ | exact vz1 | rfl) dX3_setRights_69 (esA (by decide) (by decide)) ?_
          refine r_aload_n X dX3_setRights_70 (i := 0) rfl rfl ?_
          refine r_get X kc3 (j := 16) (hw.2 _ _ (by first | decide | (simp [cnt] <;> omega))) ev3 (by decide) rfl fl_X3_41 dX3_setRights_71 ?_
          refine r_iload_n X dX3_setRights_74 (i := 1) rfl rfl ?_
          refine r_iload X dX3_setRights_75 rfl ?_
          refine r_zast X (hw.2 _ _ (by first | decide | (simp [cnt] <;> omega))) (evA (by decide) (by decide)) (by first | with_reducible rfl | with_reducible assumption | (rw [pk_mul, nI_add])) (by first | with_reducible assumption | (simp [alen] <;> omega)) (by decide) (by first | with_reducible exact vzb _ | exact vz1 | rfl) dX3_setRights_77 (esA (by decide) (by decide)) ?_
          refine r_iload X dX3_setRights_78 rfl ?_
          refine r_iret X dX3_setRights_80 (by first | decide | (simp only [rmv]; omega)) (by first | decide | (simp only [rmv]; omega)) ?_
          first | with_reducible rfl | (first | (simp [nSetRights, crm, er, h1, h2, h3, h4]; done) | (simp [nSetRights, crm, er, tM, ms_o, ms_s, h1, h2, h3, h4]; done) | (simp [nSetRights, crm, er, ms_s, h1, h2, h3, h4]; done) | (simp [nSetRights, crm, er, ms_s, h1, h2, h3, h4]; simp [tM, ms_o]; done); done) | contradiction | with_reducible assumption
        · refine r_iconst X dX3_setRights_48 (v := nI 1) (by decide) ?_
          refine r_goto X dX3_setRights_49 (tgt := 53) (by decide) ?_
          refine r_iadd X dX3_setRights_53 ?_
          refine r_istore X dX3_setRights_54 (by decide) rfl ?_
          refine r_aload_n X dX3_setRights_56 (i := 0) rfl rfl ?_
          refine r_get X kc3 (j := 14) (hw.2 _ _ (by first | decide | (simp [cnt] <;> omega))) ev3 (by decide) rfl fl_X3_35 dX3_setRights_57 ?_
          refine r_iload_n X dX3_setRights_60 (i := 1) rfl rfl ?_
          refine r_iload_n X dX3_setRights_61 (i := 2) rfl rfl ?_
          refine r_zast X (hw.2 _ _ (by first | decide | (simp [cnt] <;> omega))) (evA (by decide) (by decide)) (by first | with_reducible rfl | with_reducible assumption | (rw [pk_mul, nI_add])) (by first | with_reducible assumption | (simp [alen] <;> omega)) (by decide) (by first | with_reducible exact vzb _ | exact vz1 | rfl) dX3_setRights_62 (esA (by decide) (by decide)) ?_
          refine r_aload_n X dX3_setRights_63 (i := 0) rfl rfl ?_
          refine r_get X kc3 (j := 15) (hw.2 _ _ (by first | decide | (simp [cnt] <;> omega))) ev3 (by decide) rfl fl_X3_38 dX3_setRights_64 ?_
          refine r_iload_n X dX3_setRights_67 (i := 1) rfl rfl ?_
          refine r_iload_n X dX3_setRights_68 (i := 3) rfl rfl ?_
          refine r_zast X (hw.2 _ _ (by first | decide | (simp [cnt] <;> omega))) (evA (by decide) (by decide)) (by first | with_reducible rfl | with_reducible assumption | (rw [pk_mul, nI_add])) (by first | with_reducible assumption | (simp [alen] <;> omega)) (by decide) (by first | with_reducible exact vzb _ | exact vz1 | rfl) dX3_setRights_69 (esA (by decide) (by decide)) ?_
          refine r_aload_n X dX3_setRights_70 (i := 0) rfl rfl ?_
          refine r_get X kc3 (j := 16) (hw.2 _ _ (by first | decide | (simp [cnt] <;> omega))) ev3 (by decide) rfl fl_X3_41 dX3_setRights_71 ?_
          refine r_iload_n X dX3_setRights_74 (i := 1) rfl rfl ?_
          refine r_iload X dX3_setRights_75 rfl ?_
          refine r_zast X (hw.2 _ _ (by first | decide | (simp [cnt] <;> omega))) (evA (by decide) (by decide)) (by first | with_reducible rfl | with_reducible assumption | (rw [pk_mul, nI_add])) (by first | with_reducible assumption | (simp [alen] <;> omega)) (by decide) (by first | with_reducible exact vzb _ | exact vz1 | rfl) dX3_setRights_77 (esA (by decide) (by decide)) ?_
          refine r_iload X dX3_setRights_78 rfl ?_
          refine r_iret X dX3_setRights_80 (by first | decide | (simp only [rmv]; omega)) (by first | decide | (simp only [rmv]; omega)) ?_
          first | with_reducible rfl | (first | (simp [nSetRights, crm, er, h1, h2, h3, h4]; done) | (simp [nSetRights, crm, er, tM, ms_o, ms_s, h1, h2, h3, h4]; done) | (simp [nSetRights, crm, er, ms_s, h1, h2, h3, h4]; done) | (simp [nSetRights, crm, er, ms_s, h1, h2, h3, h4]; simp [tM, ms_o]; done); done) | contradiction | with_reducible assumption
      · refine r_iconst X dX3_setRights_33 (v := nI 1) (by decide) ?_
        refine r_goto X dX3_setRights_34 (tgt := 38) (by decide) ?_
        refine r_iadd X dX3_setRights_38 ?_
        refine r_aload_n X dX3_setRights_39 (i := 0) rfl rfl ?_
        refine r_get X kc3 (j := 16) (hw.2 _ _ (by first | decide | (simp [cnt] <;> omega))) ev3 (by decide) rfl fl_X3_41 dX3_setRights_40 ?_
        refine r_iload_n X dX3_setRights_43 (i := 1) rfl rfl ?_
        refine r_zald X (hw.2 _ _ (by first | decide | (simp [cnt] <;> omega))) (evA (by decide) (by decide)) (by first | with_reducible rfl | with_reducible assumption | (rw [pk_mul, nI_add])) (by first | with_reducible assumption | (simp [alen] <;> omega)) (by decide) dX3_setRights_44 ?_
        first | with_reducible refine r_ifb_eq X dX3_setRights_45 (tgt := 52) (by decide) (fun h5 => ?_) (fun h5 => ?_) | refine r_if_eq X dX3_setRights_45 (tgt := 52) (by decide) (fun h5 => ?_) (fun h5 => ?_)
        · refine r_iconst X dX3_setRights_52 (v := nI 0) (by decide) ?_
          refine r_iadd X dX3_setRights_53 ?_
          refine r_istore X dX3_setRights_54 (by decide) rfl ?_
          refine r_aload_n X dX3_setRights_56 (i := 0) rfl rfl ?_
          refine r_get X kc3 (j := 14) (hw.2 _ _ (by first | decide | (simp [cnt] <;> omega))) ev3 (by decide) rfl fl_X3_35 dX3_setRights_57 ?_
          refine r_iload_n X dX3_setRights_60 (i := 1) rfl rfl ?_
          refine r_iload_n X dX3_setRights_61 (i := 2) rfl rfl ?_
          refine r_zast X (hw.2 _ _ (by first | decide | (simp [cnt] <;> omega))) (evA (by decide) (by decide)) (by first | with_reducible rfl | with_reducible assumption | (rw [pk_mul, nI_add])) (by first | with_reducible assumption | (simp [alen] <;> omega)) (by decide) (by first | with_reducible exact vzb _ | exact vz1 | rfl) dX3_setRights_62 (esA (by decide) (by decide)) ?_
          refine r_aload_n X dX3_setRights_63 (i := 0) rfl rfl ?_
          refine r_get X kc3 (j := 15) (hw.2 _ _ (by first | decide | (simp [cnt] <;> omega))) ev3 (by decide) rfl fl_X3_38 dX3_setRights_64 ?_
          refine r_iload_n X dX3_setRights_67 (i := 1) rfl rfl ?_
          refine r_iload_n X dX3_setRights_68 (i := 3) rfl rfl ?_
          refine r_zast X (hw.2 _ _ (by first | decide | (simp [cnt] <;> omega))) (evA (by decide) (by decide)) (by first | with_reducible rfl | with_reducible assumption | (rw [pk_mul, nI_add])) (by first | with_reducible assumption | (simp [alen] <;> omega)) (by decide) (by first | with_reducible exact vzb _ | exact vz1 | rfl) dX3_setRights_69 (esA (by decide) (by decide)) ?_
          refine r_aload_n X dX3_setRights_70 (i := 0) rfl rfl ?_
          refine r_get X kc3 (j := 16) (hw.2 _ _ (by first | decide | (simp [cnt] <;> omega))) ev3 (by decide) rfl fl_X3_41 dX3_setRights_71 ?_
          refine r_iload_n X dX3_setRights_74 (i := 1) rfl rfl ?_
          refine r_iload X dX3_setRights_75 rfl ?_
          refine r_zast X (hw.2 _ _ (by first | decide | (simp [cnt] <;> omega))) (evA (by decide) (by decide)) (by first | with_reducible rfl | with_reducible assumption | (rw [pk_mul, nI_add])) (by first | with_reducible assumption | (simp [alen] <;> omega)) (by decide) (by first | with_reducible exact vzb _ | exact vz1 | rfl) dX3_setRights_77 (esA (by decide) (by decide)) ?_
          refine r_iload X dX3_setRights_78 rfl ?_
          refine r_iret X dX3_setRights_80 (by first | decide | (simp only [rmv]; omega)) (by first | decide | (simp only [rmv]; omega)) ?_
          first | with_reducible rfl | (first | (simp [nSetRights, crm, er, h1, h2, h3, h5]; done) | (simp [nSetRights, crm, er, tM, ms_o, ms_s, h1, h2, h3, h5]; done) | (simp [nSetRights, crm, er, ms_s, h1, h2, h3, h5]; done) | (simp [nSetRights, crm, er, ms_s, h1, h2, h3, h5]; simp [tM, ms_o]; done); done) | contradiction | with_reducible assumption
        · refine r_iconst X dX3_setRights_48 (v := nI 1) (by decide) ?_
          refine r_goto X dX3_setRights_49 (tgt := 53) (by decide) ?_
          refine r_iadd X dX3_setRights_53 ?_
          refine r_istore X dX3_setRights_54 (by decide) rfl ?_
          refine r_aload_n X dX3_setRights_56 (i := 0) rfl rfl ?_
          refine r_get X kc3 (j := 14) (hw.2 _ _ (by first | decide | (simp [cnt] <;> omega))) ev3 (by decide) rfl fl_X3_35 dX3_setRights_57 ?_
          refine r_iload_n X dX3_setRights_60 (i := 1) rfl rfl ?_
          refine r_iload_n X dX3_setRights_61 (i := 2) rfl rfl ?_
          refine r_zast X (hw.2 _ _ (by first | decide | (simp [cnt] <;> omega))) (evA (by decide) (by decide)) (by first | with_reducible rfl | with_reducible assumption | (rw [pk_mul, nI_add])) (by first | with_reducible assumption | (simp [alen] <;> omega)) (by decide) (by first | with_reducible exact vzb _ | exact vz1 | rfl) dX3_setRights_62 (esA (by decide) (by decide)) ?_
          refine r_aload_n X dX3_setRights_63 (i := 0) rfl rfl ?_
          refine r_get X kc3 (j := 15) (hw.2 _ _ (by first | decide | (simp [cnt] <;> omega))) ev3 (by decide) rfl fl_X3_38 dX3_setRights_64 ?_
          refine r_iload_n X dX3_setRights_67 (i := 1) rfl rfl ?_
          refine r_iload_n X dX3_setRights_68 (i := 3) rfl rfl ?_
          refine r_zast X (hw.2 _ _ (by first | decide | (simp [cnt] <;> omega))) (evA (by decide) (by decide)) (by first | with_reducible rfl | with_reducible assumption | (rw [pk_mul, nI_add])) (by first | with_reducible assumption | (simp [alen] <;> omega)) (by decide) (by first | with_reducible exact vzb _ | exact vz1 | rfl) dX3_setRights_69 (esA (by decide) (by decide)) ?_
          refine r_aload_n X dX3_setRights_70 (i := 0) rfl rfl ?_
          refine r_get X kc3 (j := 16) (hw.2 _ _ (by first | decide | (simp [cnt] <;> omega))) ev3 (by decide) rfl fl_X3_41 dX3_setRights_71 ?_
          refine r_iload_n X dX3_setRights_74 (i := 1) rfl rfl ?_
          refine r_iload X dX3_setRights_75 rfl ?_
          refine r_zast X (hw.2 _ _ (by first | decide | (simp [cnt] <;> omega))) (evA (by decide) (by decide)) (by first | with_reducible rfl | with_reducible assumption | (rw [pk_mul, nI_add])) (by first | with_reducible assumption | (simp [alen] <;> omega)) (by decide) (by first | with_reducible exact vzb _ | exact vz1 | rfl) dX3_setRights_77 (esA (by decide) (by decide)) ?_
          refine r_iload X dX3_setRights_78 rfl ?_
          refine r_iret X dX3_setRights_80 (by first | decide | (simp only [rmv]; omega)) (by first | decide | (simp only [rmv]; omega)) ?_
          first | with_reducible rfl | (first | (simp [nSetRights, crm, er, h1, h2, h3, h5]; done) | (simp [nSetRights, crm, er, tM, ms_o, ms_s, h1, h2, h3, h5]; done) | (simp [nSetRights, crm, er, ms_s, h1, h2, h3, h5]; done) | (simp [nSetRights, crm, er, ms_s, h1, h2, h3, h5]; simp [tM, ms_o]; done); done) | contradiction | with_reducible assumption
    · refine r_iconst X dX3_setRights_19 (v := nI 1) (by decide) ?_
      refine r_goto X dX3_setRights_20 (tgt := 24) (by decide) ?_
      refine r_aload_n X dX3_setRights_24 (i := 0) rfl rfl ?_
      refine r_get X kc3 (j := 15) (hw.2 _ _ (by first | decide | (simp [cnt] <;> omega))) ev3 (by decide) rfl fl_X3_38 dX3_setRights_25 ?_
      refine r_iload_n X dX3_setRights_28 (i := 1) rfl rfl ?_
      refine r_zald X (hw.2 _ _ (by first | decide | (simp [cnt] <;> omega))) (evA (by decide) (by decide)) (by first | with_reducible rfl | with_reducible assumption | (rw [pk_mul, nI_add])) (by first | with_reducible assumption | (simp [alen] <;> omega)) (by decide) dX3_setRights_29 ?_
      first | with_reducible refine r_ifb_eq X dX3_setRights_30 (tgt := 37) (by decide) (fun h6 => ?_) (fun h6 => ?_) | refine r_if_eq X dX3_setRights_30 (tgt := 37) (by decide) (fun h6 => ?_) (fun h6 => ?_)
      · refine r_iconst X dX3_setRights_37 (v := nI 0) (by decide) ?_
        refine r_iadd X dX3_setRights_38 ?_
        refine r_aload_n X dX3_setRights_39 (i := 0) rfl rfl ?_
        refine r_get X kc3 (j := 16) (hw.2 _ _ (by first | decide | (simp [cnt] <;> omega))) ev3 (by decide) rfl fl_X3_41 dX3_setRights_40 ?_
        refine r_iload_n X dX3_setRights_43 (i := 1) rfl rfl ?_
        refine r_zald X (hw.2 _ _ (by first | decide | (simp [cnt] <;> omega))) (evA (by decide) (by decide)) (by first | with_reducible rfl | with_reducible assumption | (rw [pk_mul, nI_add])) (by first | with_reducible assumption | (simp [alen] <;> omega)) (by decide) dX3_setRights_44 ?_
        first | with_reducible refine r_ifb_eq X dX3_setRights_45 (tgt := 52) (by decide) (fun h7 => ?_) (fun h7 => ?_) | refine r_if_eq X dX3_setRights_45 (tgt := 52) (by decide) (fun h7 => ?_) (fun h7 => ?_)
        · refine r_iconst X dX3_setRights_52 (v := nI 0) (by decide) ?_
          refine r_iadd X dX3_setRights_53 ?_
          refine r_istore X dX3_setRights_54 (by decide) rfl ?_
          refine r_aload_n X dX3_setRights_56 (i := 0) rfl rfl ?_
          refine r_get X kc3 (j := 14) (hw.2 _ _ (by first | decide | (simp [cnt] <;> omega))) ev3 (by decide) rfl fl_X3_35 dX3_setRights_57 ?_
          refine r_iload_n X dX3_setRights_60 (i := 1) rfl rfl ?_
          refine r_iload_n X dX3_setRights_61 (i := 2) rfl rfl ?_
          refine r_zast X (hw.2 _ _ (by first | decide | (simp [cnt] <;> omega))) (evA (by decide) (by decide)) (by first | with_reducible rfl | with_reducible assumption | (rw [pk_mul, nI_add])) (by first | with_reducible assumption | (simp [alen] <;> omega)) (by decide) (by first | with_reducible exact vzb _ | exact vz1 | rfl) dX3_setRights_62 (esA (by decide) (by decide)) ?_
          refine r_aload_n X dX3_setRights_63 (i := 0) rfl rfl ?_
          refine r_get X kc3 (j := 15) (hw.2 _ _ (by first | decide | (simp [cnt] <;> omega))) ev3 (by decide) rfl fl_X3_38 dX3_setRights_64 ?_
          refine r_iload_n X dX3_setRights_67 (i := 1) rfl rfl ?_
          refine r_iload_n X dX3_setRights_68 (i := 3) rfl rfl ?_
          refine r_zast X (hw.2 _ _ (by first | decide | (simp [cnt] <;> omega))) (evA (by decide) (by decide)) (by first | with_reducible rfl | with_reducible assumption | (rw [pk_mul, nI_add])) (by first | with_reducible assumption | (simp [alen] <;> omega)) (by decide) (by first | with_reducible exact vzb _ | exact vz1 | rfl) dX3_setRights_69 (esA (by decide) (by decide)) ?_
          refine r_aload_n X dX3_setRights_70 (i := 0) rfl rfl ?_
          refine r_get X kc3 (j := 16) (hw.2 _ _ (by first | decide | (simp [cnt] <;> omega))) ev3 (by decide) rfl fl_X3_41 dX3_setRights_71 ?_
          refine r_iload_n X dX3_setRights_74 (i := 1) rfl rfl ?_
          refine r_iload X dX3_setRights_75 rfl ?_
          refine r_zast X (hw.2 _ _ (by first | decide | (simp [cnt] <;> omega))) (evA (by decide) (by decide)) (by first | with_reducible rfl | with_reducible assumption | (rw [pk_mul, nI_add])) (by first | with_reducible assumption | (simp [alen] <;> omega)) (by decide) (by first | with_reducible exact vzb _ | exact vz1 | rfl) dX3_setRights_77 (esA (by decide) (by decide)) ?_
          refine r_iload X dX3_setRights_78 rfl ?_
          refine r_iret X dX3_setRights_80 (by first | decide | (simp only [rmv]; omega)) (by first | decide | (simp only [rmv]; omega)) ?_
          first | with_reducible rfl | (first | (simp [nSetRights, crm, er, h1, h2, h6, h7]; done) | (simp [nSetRights, crm, er, tM, ms_o, ms_s, h1, h2, h6, h7]; done) | (simp [nSetRights, crm, er, ms_s, h1, h2, h6, h7]; done) | (simp [nSetRights, crm, er, ms_s, h1, h2, h6, h7]; simp [tM, ms_o]; done); done) | contradiction | with_reducible assumption
        · refine r_iconst X dX3_setRights_48 (v := nI 1) (by decide) ?_
          refine r_goto X dX3_setRights_49 (tgt := 53) (by decide) ?_
          refine r_iadd X dX3_setRights_53 ?_
          refine r_istore X dX3_setRights_54 (by decide) rfl ?_
          refine r_aload_n X dX3_setRights_56 (i := 0) rfl rfl ?_
          refine r_get X kc3 (j := 14) (hw.2 _ _ (by first | decide | (simp [cnt] <;> omega))) ev3 (by decide) rfl fl_X3_35 dX3_setRights_57 ?_
          refine r_iload_n X dX3_setRights_60 (i := 1) rfl rfl ?_
          refine r_iload_n X dX3_setRights_61 (i := 2) rfl rfl ?_
          refine r_zast X (hw.2 _ _ (by first | decide | (simp [cnt] <;> omega))) (evA (by decide) (by decide)) (by first | with_reducible rfl | with_reducible assumption | (rw [pk_mul, nI_add])) (by first | with_reducible assumption | (simp [alen] <;> omega)) (by decide) (by first | with_reducible exact vzb _ | exact vz1 | rfl) dX3_setRights_62 (esA (by decide) (by decide)) ?_
          refine r_aload_n X dX3_setRights_63 (i := 0) rfl rfl ?_
          refine r_get X kc3 (j := 15) (hw.2 _ _ (by first | decide | (simp [cnt] <;> omega))) ev3 (by decide) rfl fl_X3_38 dX3_setRights_64 ?_
          refine r_iload_n X dX3_setRights_67 (i := 1) rfl rfl ?_
          refine r_iload_n X dX3_setRights_68 (i := 3) rfl rfl ?_
          refine r_zast X (hw.2 _ _ (by first | decide | (simp [cnt] <;> omega))) (evA (by decide) (by decide)) (by first | with_reducible rfl | with_reducible assumption | (rw [pk_mul, nI_add])) (by first | with_reducible assumption | (simp [alen] <;> omega)) (by decide) (by first | with_reducible exact vzb _ | exact vz1 | rfl) dX3_setRights_69 (esA (by decide) (by decide)) ?_
          refine r_aload_n X dX3_setRights_70 (i := 0) rfl rfl ?_
          refine r_get X kc3 (j := 16) (hw.2 _ _ (by first | decide | (simp [cnt] <;> omega))) ev3 (by decide) rfl fl_X3_41 dX3_setRights_71 ?_
          refine r_iload_n X dX3_setRights_74 (i := 1) rfl rfl ?_
          refine r_iload X dX3_setRights_75 rfl ?_
          refine r_zast X (hw.2 _ _ (by first | decide | (simp [cnt] <;> omega))) (evA (by decide) (by decide)) (by first | with_reducible rfl | with_reducible assumption | (rw [pk_mul, nI_add])) (by first | with_reducible assumption | (simp [alen] <;> omega)) (by decide) (by first | with_reducible exact vzb _ | exact vz1 | rfl) dX3_setRights_77 (esA (by decide) (by decide)) ?_
          refine r_iload X dX3_setRights_78 rfl ?_
          refine r_iret X dX3_setRights_80 (by first | decide | (simp only [rmv]; omega)) (by first | decide | (simp only [rmv]; omega)) ?_
          first | with_reducible rfl | (first | (simp [nSetRights, crm, er, h1, h2, h6, h7]; done) | (simp [nSetRights, crm, er, tM, ms_o, ms_s, h1, h2, h6, h7]; done) | (simp [nSetRights, crm, er, ms_s, h1, h2, h6, h7]; done) | (simp [nSetRights, crm, er, ms_s, h1, h2, h6, h7]; simp [tM, ms_o]; done); done) | contradiction | with_reducible assumption
      · refine r_iconst X dX3_setRights_33 (v := nI 1) (by decide) ?_
        refine r_goto X dX3_setRights_34 (tgt := 38) (by decide) ?_
        refine r_iadd X dX3_setRights_38 ?_
        refine r_aload_n X dX3_setRights_39 (i := 0) rfl rfl ?_
        refine r_get X kc3 (j := 16) (hw.2 _ _ (by first | decide | (simp [cnt] <;> omega))) ev3 (by decide) rfl fl_X3_41 dX3_setRights_40 ?_
        refine r_iload_n X dX3_setRights_43 (i := 1) rfl rfl ?_
        refine r_zald X (hw.2 _ _ (by first | decide | (simp [cnt] <;> omega))) (evA (by decide) (by decide)) (by first | with_reducible rfl | with_reducible assumption | (rw [pk_mul, nI_add])) (by first | with_reducible assumption | (simp [alen] <;> omega)) (by decide) dX3_setRights_44 ?_
        first | with_reducible refine r_ifb_eq X dX3_setRights_45 (tgt := 52) (by decide) (fun h8 => ?_) (fun h8 => ?_) | refine r_if_eq X dX3_setRights_45 (tgt := 52) (by decide) (fun h8 => ?_) (fun h8 => ?_)
        · refine r_iconst X dX3_setRights_52 (v := nI 0) (by decide) ?_
          refine r_iadd X dX3_setRights_53 ?_
          refine r_istore X dX3_setRights_54 (by decide) rfl ?_
          refine r_aload_n X dX3_setRights_56 (i := 0) rfl rfl ?_
          refine r_get X kc3 (j := 14) (hw.2 _ _ (by first | decide | (simp [cnt] <;> omega))) ev3 (by decide) rfl fl_X3_35 dX3_setRights_57 ?_
          refine r_iload_n X dX3_setRights_60 (i := 1) rfl rfl ?_
          refine r_iload_n X dX3_setRights_61 (i := 2) rfl rfl ?_
          refine r_zast X (hw.2 _ _ (by first | decide | (simp [cnt] <;> omega))) (evA (by decide) (by decide)) (by first | with_reducible rfl | with_reducible assumption | (rw [pk_mul, nI_add])) (by first | with_reducible assumption | (simp [alen] <;> omega)) (by decide) (by first | with_reducible exact vzb _ | exact vz1 | rfl) dX3_setRights_62 (esA (by decide) (by decide)) ?_
          refine r_aload_n X dX3_setRights_63 (i := 0) rfl rfl ?_
          refine r_get X kc3 (j := 15) (hw.2 _ _ (by first | decide | (simp [cnt] <;> omega))) ev3 (by decide) rfl fl_X3_38 dX3_setRights_64 ?_
          refine r_iload_n X dX3_setRights_67 (i := 1) rfl rfl ?_
          refine r_iload_n X dX3_setRights_68 (i := 3) rfl rfl ?_
          refine r_zast X (hw.2 _ _ (by first | decide | (simp [cnt] <;> omega))) (evA (by decide) (by decide)) (by first | with_reducible rfl | with_reducible assumption | (rw [pk_mul, nI_add])) (by first | with_reducible assumption | (simp [alen] <;> omega)) (by decide) (by first | with_reducible exact vzb _ | exact vz1 | rfl) dX3_setRights_69 (esA (by decide) (by decide)) ?_
          refine r_aload_n X dX3_setRights_70 (i := 0) rfl rfl ?_
          refine r_get X kc3 (j := 16) (hw.2 _ _ (by first | decide | (simp [cnt] <;> omega))) ev3 (by decide) rfl fl_X3_41 dX3_setRights_71 ?_
          refine r_iload_n X dX3_setRights_74 (i := 1) rfl rfl ?_
          refine r_iload X dX3_setRights_75 rfl ?_
          refine r_zast X (hw.2 _ _ (by first | decide | (simp [cnt] <;> omega))) (evA (by decide) (by decide)) (by first | with_reducible rfl | with_reducible assumption | (rw [pk_mul, nI_add])) (by first | with_reducible assumption | (simp [alen] <;> omega)) (by decide) (by first | with_reducible exact vzb _ | exact vz1 | rfl) dX3_setRights_77 (esA (by decide) (by decide)) ?_
          refine r_iload X dX3_setRights_78 rfl ?_
          refine r_iret X dX3_setRights_80 (by first | decide | (simp only [rmv]; omega)) (by first | decide | (simp only [rmv]; omega)) ?_
          first | with_reducible rfl | (first | (simp [nSetRights, crm, er, h1, h2, h6, h8]; done) | (simp [nSetRights, crm, er, tM, ms_o, ms_s, h1, h2, h6, h8]; done) | (simp [nSetRights, crm, er, ms_s, h1, h2, h6, h8]; done) | (simp [nSetRights, crm, er, ms_s, h1, h2, h6, h8]; simp [tM, ms_o]; done); done) | contradiction | with_reducible assumption
        · refine r_iconst X dX3_setRights_48 (v := nI 1) (by decide) ?_
          refine r_goto X dX3_setRights_49 (tgt := 53) (by decide) ?_
          refine r_iadd X dX3_setRights_53 ?_
          refine r_istore X dX3_setRights_54 (by decide) rfl ?_
          refine r_aload_n X dX3_setRights_56 (i := 0) rfl rfl ?_
          refine r_get X kc3 (j := 14) (hw.2 _ _ (by first | decide | (simp [cnt] <;> omega))) ev3 (by decide) rfl fl_X3_35 dX3_setRights_57 ?_
          refine r_iload_n X dX3_setRights_60 (i := 1) rfl rfl ?_
          refine r_iload_n X dX3_setRights_61 (i := 2) rfl rfl ?_
          refine r_zast X (hw.2 _ _ (by first | decide | (simp [cnt] <;> omega))) (evA (by decide) (by decide)) (by first | with_reducible rfl | with_reducible assumption | (rw [pk_mul, nI_add])) (by first | with_reducible assumption | (simp [alen] <;> omega)) (by decide) (by first | with_reducible exact vzb _ | exact vz1 | rfl) dX3_setRights_62 (esA (by decide) (by decide)) ?_
          refine r_aload_n X dX3_setRights_63 (i := 0) rfl rfl ?_
          refine r_get X kc3 (j := 15) (hw.2 _ _ (by first | decide | (simp [cnt] <;> omega))) ev3 (by decide) rfl fl_X3_38 dX3_setRights_64 ?_
          refine r_iload_n X dX3_setRights_67 (i := 1) rfl rfl ?_
          refine r_iload_n X dX3_setRights_68 (i := 3) rfl rfl ?_
          refine r_zast X (hw.2 _ _ (by first | decide | (simp [cnt] <;> omega))) (evA (by decide) (by decide)) (by first | with_reducible rfl | with_reducible assumption | (rw [pk_mul, nI_add])) (by first | with_reducible assumption | (simp [alen] <;> omega)) (by decide) (by first | with_reducible exact vzb _ | exact vz1 | rfl) dX3_setRights_69 (esA (by decide) (by decide)) ?_
          refine r_aload_n X dX3_setRights_70 (i := 0) rfl rfl ?_
          refine r_get X kc3 (j := 16) (hw.2 _ _ (by first | decide | (simp [cnt] <;> omega))) ev3 (by decide) rfl fl_X3_41 dX3_setRights_71 ?_
          refine r_iload_n X dX3_setRights_74 (i := 1) rfl rfl ?_
          refine r_iload X dX3_setRights_75 rfl ?_
          refine r_zast X (hw.2 _ _ (by first | decide | (simp [cnt] <;> omega))) (evA (by decide) (by decide)) (by first | with_reducible rfl | with_reducible assumption | (rw [pk_mul, nI_add])) (by first | with_reducible assumption | (simp [alen] <;> omega)) (by decide) (by first | with_reducible exact vzb _ | exact vz1 | rfl) dX3_setRights_77 (esA (by decide) (by decide)) ?_
          refine r_iload X dX3_setRights_78 rfl ?_
          refine r_iret X dX3_setRights_80 (by first | decide | (simp only [rmv]; omega)) (by first | decide | (simp only [rmv]; omega)) ?_
          first | with_reducible rfl | (first | (simp [nSetRights, crm, er, h1, h2, h6, h8]; done) | (simp [nSetRights, crm, er, tM, ms_o, ms_s, h1, h2, h6, h8]; done) | (simp [nSetRights, crm, er, ms_s, h1, h2, h6, h8]; done) | (simp [nSetRights, crm, er, ms_s, h1, h2, h6, h8]; simp [tM, ms_o]; done); done) | contradiction | with_reducible assumption
  · rw [h1]
    refine r_iconst X dX3_setRights_8 (v := nI 0) (by decide) ?_
    refine r_iret X dX3_setRights_9 (by first | decide | (simp only [rmv]; omega)) (by first | decide | (simp only [rmv]; omega)) ?_
    first | with_reducible rfl | (first | (simp [nSetRights, crm, er, h1]; done) | (simp [nSetRights, crm, er, tM, ms_o, ms_s, h1]; done) | (simp [nSetRights, crm, er, ms_s, h1]; done) | (simp [nSetRights, crm, er, ms_s, h1]; simp [tM, ms_o]; done); done) | contradiction | with_reducible assumption

set_option maxHeartbeats 4000000 in
set_option maxRecDepth 100000 in
theorem c_X3_setMinimum {l : Launch} {w : Wo} {M : Mem} {G : Lng} {x d9 : Int32} (hnt : l.stackTraces = false) (hw : WK w) (hD : DM M) : CT l yX3_setMinimum [Cond.code yX3_setMinimum cX3_setMinimum 4 (some .int)] 7 0 0 w [.ref (w.1 (3, 0)), .int x, .int d9] M G (nSetMinimum M G x d9) := by
  refine CT_of hnt hw.1 mw_X3_setMinimum (by simp [Value.category]) (Nat.le_of_ble_eq_true rfl) (fun p e s m args below meth c X => ?_)
  refine r_aload_n X dX3_setMinimum_0 (i := 0) rfl rfl ?_
  refine r_iload_n X dX3_setMinimum_1 (i := 1) rfl rfl ?_
  refine r_callV X (c_X3_noEntitlement hnt hw ) mw_X3_noEntitlement kc3 mi_X3_noEntitlement (hw.2 _ _ (by first | decide | (simp [cnt] <;> omega))) ev3 ml_X3_106 rfl rfl (Nat.le_of_ble_eq_true rfl) (by first | decide | (simp only [rmv]; omega)) (by first | decide | (simp only [rmv]; omega)) (by first | decide | (simp only [rmv]; omega)) (by first | decide | (simp only [rmv]; omega)) dX3_setMinimum_2 (ko1 ?_)
  first | with_reducible refine r_ifb_eq X dX3_setMinimum_5 (tgt := 10) (by decide) (fun h1 => ?_) (fun h1 => ?_) | refine r_if_eq X dX3_setMinimum_5 (tgt := 10) (by decide) (fun h1 => ?_) (fun h1 => ?_)
  · rw [h1]
    have hy1 := (nte_Rg hD h1).1
    have hy2 := (nte_Rg hD h1).2
    refine r_iload_n X dX3_setMinimum_10 (i := 2) rfl rfl ?_
    refine r_iconst X dX3_setMinimum_11 (v := nI 1) (by decide) ?_
    refine r_bipush X dX3_setMinimum_12 (v := nI 16) (by decide) ?_
    refine r_callS X (c_X3_isIn hnt hw ) mw_X3_isIn mi_X3_isIn ml_X3_89 rfl rfl (Nat.le_of_ble_eq_true rfl) (by first | decide | (simp only [rmv]; omega)) (by first | decide | (simp only [rmv]; omega)) (by first | decide | (simp only [rmv]; omega)) (by first | decide | (simp only [rmv]; omega)) dX3_setMinimum_14 (ko1 ?_)
    first | with_reducible refine r_ifb_ne X dX3_setMinimum_17 (tgt := 26) (by decide) (fun h2 => ?_) (fun h2 => ?_) | refine r_if_ne X dX3_setMinimum_17 (tgt := 26) (by decide) (fun h2 => ?_) (fun h2 => ?_)
    · refine r_aload_n X dX3_setMinimum_26 (i := 0) rfl rfl ?_
      refine r_get X kc3 (j := 24) (hw.2 _ _ (by first | decide | (simp [cnt] <;> omega))) ev3 (by decide) rfl fl_X3_65 dX3_setMinimum_27 ?_
      refine r_iload_n X dX3_setMinimum_30 (i := 1) rfl rfl ?_
      refine r_cald X (hw.2 _ _ (by first | decide | (simp [cnt] <;> omega))) (evA (by decide) (by decide)) (by first | with_reducible rfl | with_reducible assumption | (rw [pk_mul, nI_add])) (by first | with_reducible assumption | (simp [alen] <;> omega)) (by decide) dX3_setMinimum_31 ?_
      refine r_bipush X dX3_setMinimum_32 (v := nI 99) (by decide) ?_
      first | with_reducible refine r_icmpn_eq X dX3_setMinimum_34 (tgt := 43) (by decide) (by omega) (by omega) (fun h3 => ?_) (fun h3 => ?_) | refine r_icmp_eq X dX3_setMinimum_34 (tgt := 43) (by decide) (fun h3 => ?_) (fun h3 => ?_)
      · refine r_aload_n X dX3_setMinimum_43 (i := 0) rfl rfl ?_
        refine r_get X kc3 (j := 22) (hw.2 _ _ (by first | decide | (simp [cnt] <;> omega))) ev3 (by decide) rfl fl_X3_59 dX3_setMinimum_44 ?_
        refine r_iload_n X dX3_setMinimum_47 (i := 1) rfl rfl ?_
        refine r_iald X (hw.2 _ _ (by first | decide | (simp [cnt] <;> omega))) (evA (by decide) (by decide)) (by first | with_reducible rfl | with_reducible assumption | (rw [pk_mul, nI_add])) (by first | with_reducible assumption | (simp [alen] <;> omega)) (by decide) dX3_setMinimum_48 ?_
        refine r_istore_n X dX3_setMinimum_49 (i := 3) rfl (by decide) rfl ?_
        refine r_aload_n X dX3_setMinimum_50 (i := 0) rfl rfl ?_
        refine r_get X kc3 (j := 22) (hw.2 _ _ (by first | decide | (simp [cnt] <;> omega))) ev3 (by decide) rfl fl_X3_59 dX3_setMinimum_51 ?_
        refine r_iload_n X dX3_setMinimum_54 (i := 1) rfl rfl ?_
        refine r_iload_n X dX3_setMinimum_55 (i := 2) rfl rfl ?_
        refine r_iast X (hw.2 _ _ (by first | decide | (simp [cnt] <;> omega))) (evA (by decide) (by decide)) (by first | with_reducible rfl | with_reducible assumption | (rw [pk_mul, nI_add])) (by first | with_reducible assumption | (simp [alen] <;> omega)) (by decide) rfl dX3_setMinimum_56 (esA (by decide) (by decide)) ?_
        refine r_iload_n X dX3_setMinimum_57 (i := 3) rfl rfl ?_
        refine r_iret X dX3_setMinimum_58 (by first | decide | (simp only [rmv]; omega)) (by first | decide | (simp only [rmv]; omega)) ?_
        first | with_reducible rfl | (first | (simp [nSetMinimum, er, h1, h2, h3]; done) | (simp [nSetMinimum, er, tM, ms_o, ms_s, h1, h2, h3]; done) | (simp [nSetMinimum, er, ms_s, h1, h2, h3]; done) | (simp [nSetMinimum, er, ms_s, h1, h2, h3]; simp [tM, ms_o]; done); done) | contradiction | with_reducible assumption
      · refine r_aload_n X dX3_setMinimum_37 (i := 0) rfl rfl ?_
        refine r_iconst X dX3_setMinimum_38 (v := nI 3) (by decide) ?_
        refine r_callV X (c_X3_fail hnt hw ) mw_X3_fail kc3 mi_X3_fail (hw.2 _ _ (by first | decide | (simp [cnt] <;> omega))) ev3 ml_X3_93 rfl rfl (Nat.le_of_ble_eq_true rfl) (by first | decide | (simp only [rmv]; omega)) (by first | decide | (simp only [rmv]; omega)) (by first | decide | (simp only [rmv]; omega)) (by first | decide | (simp only [rmv]; omega)) dX3_setMinimum_39 (ko1 ?_)
        refine r_iret X dX3_setMinimum_42 (by first | decide | (simp only [rmv]; omega)) (by first | decide | (simp only [rmv]; omega)) ?_
        first | with_reducible rfl | (first | (simp [nSetMinimum, er, h1, h2, h3]; done) | (simp [nSetMinimum, er, tM, ms_o, ms_s, h1, h2, h3]; done) | (simp [nSetMinimum, er, ms_s, h1, h2, h3]; done) | (simp [nSetMinimum, er, ms_s, h1, h2, h3]; simp [tM, ms_o]; done); done) | contradiction | with_reducible assumption
    · refine r_aload_n X dX3_setMinimum_20 (i := 0) rfl rfl ?_
      refine r_iconst X dX3_setMinimum_21 (v := nI 2) (by decide) ?_
      refine r_callV X (c_X3_fail hnt hw ) mw_X3_fail kc3 mi_X3_fail (hw.2 _ _ (by first | decide | (simp [cnt] <;> omega))) ev3 ml_X3_93 rfl rfl (Nat.le_of_ble_eq_true rfl) (by first | decide | (simp only [rmv]; omega)) (by first | decide | (simp only [rmv]; omega)) (by first | decide | (simp only [rmv]; omega)) (by first | decide | (simp only [rmv]; omega)) dX3_setMinimum_22 (ko1 ?_)
      refine r_iret X dX3_setMinimum_25 (by first | decide | (simp only [rmv]; omega)) (by first | decide | (simp only [rmv]; omega)) ?_
      first | with_reducible rfl | (first | (simp [nSetMinimum, er, h1, h2]; done) | (simp [nSetMinimum, er, tM, ms_o, ms_s, h1, h2]; done) | (simp [nSetMinimum, er, ms_s, h1, h2]; done) | (simp [nSetMinimum, er, ms_s, h1, h2]; simp [tM, ms_o]; done); done) | contradiction | with_reducible assumption
  · rw [h1]
    refine r_iconst X dX3_setMinimum_8 (v := nI 0) (by decide) ?_
    refine r_iret X dX3_setMinimum_9 (by first | decide | (simp only [rmv]; omega)) (by first | decide | (simp only [rmv]; omega)) ?_
    first | with_reducible rfl | (first | (simp [nSetMinimum, er, h1]; done) | (simp [nSetMinimum, er, tM, ms_o, ms_s, h1]; done) | (simp [nSetMinimum, er, ms_s, h1]; done) | (simp [nSetMinimum, er, ms_s, h1]; simp [tM, ms_o]; done); done) | contradiction | with_reducible assumption

set_option maxHeartbeats 4000000 in
set_option maxRecDepth 100000 in
theorem c_X3_setPrice {l : Launch} {w : Wo} {M : Mem} {G : Lng} {x d9 : Int32} (hnt : l.stackTraces = false) (hw : WK w) (hD : DM M) : CT l yX3_setPrice [Cond.code yX3_setPrice cX3_setPrice 4 (some .int)] 7 0 0 w [.ref (w.1 (3, 0)), .int x, .int d9] M G (nSetPrice M G x d9) := by
  refine CT_of hnt hw.1 mw_X3_setPrice (by simp [Value.category]) (Nat.le_of_ble_eq_true rfl) (fun p e s m args below meth c X => ?_)
  refine r_aload_n X dX3_setPrice_0 (i := 0) rfl rfl ?_
  refine r_iload_n X dX3_setPrice_1 (i := 1) rfl rfl ?_
  refine r_callV X (c_X3_noEntitlement hnt hw ) mw_X3_noEntitlement kc3 mi_X3_noEntitlement (hw.2 _ _ (by first | decide | (simp [cnt] <;> omega))) ev3 ml_X3_106 rfl rfl (Nat.le_of_ble_eq_true rfl) (by first | decide | (simp only [rmv]; omega)) (by first | decide | (simp only [rmv]; omega)) (by first | decide | (simp only [rmv]; omega)) (by first | decide | (simp only [rmv]; omega)) dX3_setPrice_2 (ko1 ?_)
  first | with_reducible refine r_ifb_eq X dX3_setPrice_5 (tgt := 10) (by decide) (fun h1 => ?_) (fun h1 => ?_) | refine r_if_eq X dX3_setPrice_5 (tgt := 10) (by decide) (fun h1 => ?_) (fun h1 => ?_)
  · rw [h1]
    have hy1 := (nte_Rg hD h1).1
    have hy2 := (nte_Rg hD h1).2
    refine r_iload_n X dX3_setPrice_10 (i := 2) rfl rfl ?_
    refine r_iconst X dX3_setPrice_11 (v := nI 1) (by decide) ?_
    refine r_bipush X dX3_setPrice_12 (v := nI 99) (by decide) ?_
    refine r_callS X (c_X3_isIn hnt hw ) mw_X3_isIn mi_X3_isIn ml_X3_89 rfl rfl (Nat.le_of_ble_eq_true rfl) (by first | decide | (simp only [rmv]; omega)) (by first | decide | (simp only [rmv]; omega)) (by first | decide | (simp only [rmv]; omega)) (by first | decide | (simp only [rmv]; omega)) dX3_setPrice_14 (ko1 ?_)
    first | with_reducible refine r_ifb_ne X dX3_setPrice_17 (tgt := 26) (by decide) (fun h2 => ?_) (fun h2 => ?_) | refine r_if_ne X dX3_setPrice_17 (tgt := 26) (by decide) (fun h2 => ?_) (fun h2 => ?_)
    · refine r_aload_n X dX3_setPrice_26 (i := 0) rfl rfl ?_
      refine r_get X kc3 (j := 23) (hw.2 _ _ (by first | decide | (simp [cnt] <;> omega))) ev3 (by decide) rfl fl_X3_62 dX3_setPrice_27 ?_
      refine r_iload_n X dX3_setPrice_30 (i := 1) rfl rfl ?_
      refine r_iald X (hw.2 _ _ (by first | decide | (simp [cnt] <;> omega))) (evA (by decide) (by decide)) (by first | with_reducible rfl | with_reducible assumption | (rw [pk_mul, nI_add])) (by first | with_reducible assumption | (simp [alen] <;> omega)) (by decide) dX3_setPrice_31 ?_
      refine r_istore_n X dX3_setPrice_32 (i := 3) rfl (by decide) rfl ?_
      refine r_aload_n X dX3_setPrice_33 (i := 0) rfl rfl ?_
      refine r_get X kc3 (j := 23) (hw.2 _ _ (by first | decide | (simp [cnt] <;> omega))) ev3 (by decide) rfl fl_X3_62 dX3_setPrice_34 ?_
      refine r_iload_n X dX3_setPrice_37 (i := 1) rfl rfl ?_
      refine r_iload_n X dX3_setPrice_38 (i := 2) rfl rfl ?_
      refine r_iast X (hw.2 _ _ (by first | decide | (simp [cnt] <;> omega))) (evA (by decide) (by decide)) (by first | with_reducible rfl | with_reducible assumption | (rw [pk_mul, nI_add])) (by first | with_reducible assumption | (simp [alen] <;> omega)) (by decide) rfl dX3_setPrice_39 (esA (by decide) (by decide)) ?_
      refine r_iload_n X dX3_setPrice_40 (i := 3) rfl rfl ?_
      refine r_iret X dX3_setPrice_41 (by first | decide | (simp only [rmv]; omega)) (by first | decide | (simp only [rmv]; omega)) ?_
      first | with_reducible rfl | (first | (simp [nSetPrice, er, h1, h2]; done) | (simp [nSetPrice, er, tM, ms_o, ms_s, h1, h2]; done) | (simp [nSetPrice, er, ms_s, h1, h2]; done) | (simp [nSetPrice, er, ms_s, h1, h2]; simp [tM, ms_o]; done); done) | contradiction | with_reducible assumption
    · refine r_aload_n X dX3_setPrice_20 (i := 0) rfl rfl ?_
      refine r_iconst X dX3_setPrice_21 (v := nI 2) (by decide) ?_
      refine r_callV X (c_X3_fail hnt hw ) mw_X3_fail kc3 mi_X3_fail (hw.2 _ _ (by first | decide | (simp [cnt] <;> omega))) ev3 ml_X3_93 rfl rfl (Nat.le_of_ble_eq_true rfl) (by first | decide | (simp only [rmv]; omega)) (by first | decide | (simp only [rmv]; omega)) (by first | decide | (simp only [rmv]; omega)) (by first | decide | (simp only [rmv]; omega)) dX3_setPrice_22 (ko1 ?_)
      refine r_iret X dX3_setPrice_25 (by first | decide | (simp only [rmv]; omega)) (by first | decide | (simp only [rmv]; omega)) ?_
      first | with_reducible rfl | (first | (simp [nSetPrice, er, h1, h2]; done) | (simp [nSetPrice, er, tM, ms_o, ms_s, h1, h2]; done) | (simp [nSetPrice, er, ms_s, h1, h2]; done) | (simp [nSetPrice, er, ms_s, h1, h2]; simp [tM, ms_o]; done); done) | contradiction | with_reducible assumption
  · rw [h1]
    refine r_iconst X dX3_setPrice_8 (v := nI 0) (by decide) ?_
    refine r_iret X dX3_setPrice_9 (by first | decide | (simp only [rmv]; omega)) (by first | decide | (simp only [rmv]; omega)) ?_
    first | with_reducible rfl | (first | (simp [nSetPrice, er, h1]; done) | (simp [nSetPrice, er, tM, ms_o, ms_s, h1]; done) | (simp [nSetPrice, er, ms_s, h1]; done) | (simp [nSetPrice, er, ms_s, h1]; simp [tM, ms_o]; done); done) | contradiction | with_reducible assumption

set_option maxHeartbeats 4000000 in
set_option maxRecDepth 100000 in
theorem c_X3_addUnits {l : Launch} {w : Wo} {M : Mem} {G : Lng} {x d9 : Int32} (hnt : l.stackTraces = false) (hw : WK w) (hD : DM M) : CT l yX3_addUnits [Cond.code yX3_addUnits cX3_addUnits 3 (some .int)] 7 0 0 w [.ref (w.1 (3, 0)), .int x, .int d9] M G (nAddUnits M G x d9) := by
  refine CT_of hnt hw.1 mw_X3_addUnits (by simp [Value.category]) (Nat.le_of_ble_eq_true rfl) (fun p e s m args below meth c X => ?_)
  refine r_aload_n X dX3_addUnits_0 (i := 0) rfl rfl ?_
  refine r_iload_n X dX3_addUnits_1 (i := 1) rfl rfl ?_
  refine r_callV X (c_X3_noEntitlement hnt hw ) mw_X3_noEntitlement kc3 mi_X3_noEntitlement (hw.2 _ _ (by first | decide | (simp [cnt] <;> omega))) ev3 ml_X3_106 rfl rfl (Nat.le_of_ble_eq_true rfl) (by first | decide | (simp only [rmv]; omega)) (by first | decide | (simp only [rmv]; omega)) (by first | decide | (simp only [rmv]; omega)) (by first | decide | (simp only [rmv]; omega)) dX3_addUnits_2 (ko1 ?_)
  first | with_reducible refine r_ifb_eq X dX3_addUnits_5 (tgt := 10) (by decide) (fun h1 => ?_) (fun h1 => ?_) | refine r_if_eq X dX3_addUnits_5 (tgt := 10) (by decide) (fun h1 => ?_) (fun h1 => ?_)
  · rw [h1]
    have hy1 := (nte_Rg hD h1).1
    have hy2 := (nte_Rg hD h1).2
    refine r_iload_n X dX3_addUnits_10 (i := 2) rfl rfl ?_
    refine r_iconst X dX3_addUnits_11 (v := nI 1) (by decide) ?_
    refine r_bipush X dX3_addUnits_12 (v := nI 99) (by decide) ?_
    refine r_callS X (c_X3_isIn hnt hw ) mw_X3_isIn mi_X3_isIn ml_X3_89 rfl rfl (Nat.le_of_ble_eq_true rfl) (by first | decide | (simp only [rmv]; omega)) (by first | decide | (simp only [rmv]; omega)) (by first | decide | (simp only [rmv]; omega)) (by first | decide | (simp only [rmv]; omega)) dX3_addUnits_14 (ko1 ?_)
    first | with_reducible refine r_ifb_ne X dX3_addUnits_17 (tgt := 26) (by decide) (fun h2 => ?_) (fun h2 => ?_) | refine r_if_ne X dX3_addUnits_17 (tgt := 26) (by decide) (fun h2 => ?_) (fun h2 => ?_)
    · refine r_aload_n X dX3_addUnits_26 (i := 0) rfl rfl ?_
      refine r_get X kc3 (j := 20) (hw.2 _ _ (by first | decide | (simp [cnt] <;> omega))) ev3 (by decide) rfl fl_X3_53 dX3_addUnits_27 ?_
      refine r_iload_n X dX3_addUnits_30 (i := 1) rfl rfl ?_
      refine r_iald X (hw.2 _ _ (by first | decide | (simp [cnt] <;> omega))) (evA (by decide) (by decide)) (by first | with_reducible rfl | with_reducible assumption | (rw [pk_mul, nI_add])) (by first | with_reducible assumption | (simp [alen] <;> omega)) (by decide) dX3_addUnits_31 ?_
      refine r_iload_n X dX3_addUnits_32 (i := 2) rfl rfl ?_
      refine r_iadd X dX3_addUnits_33 ?_
      refine r_sipush X dX3_addUnits_34 (v := nI 999) (by decide) ?_
      first | with_reducible refine r_icmpn_le X dX3_addUnits_37 (tgt := 46) (by decide) (by omega) (by omega) (fun h3 => ?_) (fun h3 => ?_) | refine r_icmp_le X dX3_addUnits_37 (tgt := 46) (by decide) (fun h3 => ?_) (fun h3 => ?_)
      · refine r_aload_n X dX3_addUnits_46 (i := 0) rfl rfl ?_
        refine r_get X kc3 (j := 20) (hw.2 _ _ (by first | decide | (simp [cnt] <;> omega))) ev3 (by decide) rfl fl_X3_53 dX3_addUnits_47 ?_
        refine r_iload_n X dX3_addUnits_50 (i := 1) rfl rfl ?_
        refine r_dup2 X dX3_addUnits_51 rfl rfl ?_
        refine r_iald X (hw.2 _ _ (by first | decide | (simp [cnt] <;> omega))) (evA (by decide) (by decide)) (by first | with_reducible rfl | with_reducible assumption | (rw [pk_mul, nI_add])) (by first | with_reducible assumption | (simp [alen] <;> omega)) (by decide) dX3_addUnits_52 ?_
        refine r_iload_n X dX3_addUnits_53 (i := 2) rfl rfl ?_
        refine r_iadd X dX3_addUnits_54 ?_
        refine r_iast X (hw.2 _ _ (by first | decide | (simp [cnt] <;> omega))) (evA (by decide) (by decide)) (by first | with_reducible rfl | with_reducible assumption | (rw [pk_mul, nI_add])) (by first | with_reducible assumption | (simp [alen] <;> omega)) (by decide) rfl dX3_addUnits_55 (esA (by decide) (by decide)) ?_
        refine r_aload_n X dX3_addUnits_56 (i := 0) rfl rfl ?_
        refine r_get X kc3 (j := 20) (hw.2 _ _ (by first | decide | (simp [cnt] <;> omega))) ev3 (by decide) rfl fl_X3_53 dX3_addUnits_57 ?_
        refine r_iload_n X dX3_addUnits_60 (i := 1) rfl rfl ?_
        refine r_iald X (hw.2 _ _ (by first | decide | (simp [cnt] <;> omega))) (evA (by decide) (by decide)) (by first | with_reducible rfl | with_reducible assumption | (rw [pk_mul, nI_add])) (by first | with_reducible assumption | (simp [alen] <;> omega)) (by decide) dX3_addUnits_61 ?_
        refine r_iret X dX3_addUnits_62 (by first | decide | (simp only [rmv]; omega)) (by first | decide | (simp only [rmv]; omega)) ?_
        first | with_reducible rfl | (first | (simp [nAddUnits, er, h1, h2, h3]; done) | (simp [nAddUnits, er, tM, ms_o, ms_s, h1, h2, h3]; done) | (simp [nAddUnits, er, ms_s, h1, h2, h3]; done) | (simp [nAddUnits, er, ms_s, h1, h2, h3]; simp [tM, ms_o]; done); done) | contradiction | with_reducible assumption
      · refine r_aload_n X dX3_addUnits_40 (i := 0) rfl rfl ?_
        refine r_iconst X dX3_addUnits_41 (v := nI 3) (by decide) ?_
        refine r_callV X (c_X3_fail hnt hw ) mw_X3_fail kc3 mi_X3_fail (hw.2 _ _ (by first | decide | (simp [cnt] <;> omega))) ev3 ml_X3_93 rfl rfl (Nat.le_of_ble_eq_true rfl) (by first | decide | (simp only [rmv]; omega)) (by first | decide | (simp only [rmv]; omega)) (by first | decide | (simp only [rmv]; omega)) (by first | decide | (simp only [rmv]; omega)) dX3_addUnits_42 (ko1 ?_)
        refine r_iret X dX3_addUnits_45 (by first | decide | (simp only [rmv]; omega)) (by first | decide | (simp only [rmv]; omega)) ?_
        first | with_reducible rfl | (first | (simp [nAddUnits, er, h1, h2, h3]; done) | (simp [nAddUnits, er, tM, ms_o, ms_s, h1, h2, h3]; done) | (simp [nAddUnits, er, ms_s, h1, h2, h3]; done) | (simp [nAddUnits, er, ms_s, h1, h2, h3]; simp [tM, ms_o]; done); done) | contradiction | with_reducible assumption
    · refine r_aload_n X dX3_addUnits_20 (i := 0) rfl rfl ?_
      refine r_iconst X dX3_addUnits_21 (v := nI 2) (by decide) ?_
      refine r_callV X (c_X3_fail hnt hw ) mw_X3_fail kc3 mi_X3_fail (hw.2 _ _ (by first | decide | (simp [cnt] <;> omega))) ev3 ml_X3_93 rfl rfl (Nat.le_of_ble_eq_true rfl) (by first | decide | (simp only [rmv]; omega)) (by first | decide | (simp only [rmv]; omega)) (by first | decide | (simp only [rmv]; omega)) (by first | decide | (simp only [rmv]; omega)) dX3_addUnits_22 (ko1 ?_)
      refine r_iret X dX3_addUnits_25 (by first | decide | (simp only [rmv]; omega)) (by first | decide | (simp only [rmv]; omega)) ?_
      first | with_reducible rfl | (first | (simp [nAddUnits, er, h1, h2]; done) | (simp [nAddUnits, er, tM, ms_o, ms_s, h1, h2]; done) | (simp [nAddUnits, er, ms_s, h1, h2]; done) | (simp [nAddUnits, er, ms_s, h1, h2]; simp [tM, ms_o]; done); done) | contradiction | with_reducible assumption
  · rw [h1]
    refine r_iconst X dX3_addUnits_8 (v := nI 0) (by decide) ?_
    refine r_iret X dX3_addUnits_9 (by first | decide | (simp only [rmv]; omega)) (by first | decide | (simp only [rmv]; omega)) ?_
    first | with_reducible rfl | (first | (simp [nAddUnits, er, h1]; done) | (simp [nAddUnits, er, tM, ms_o, ms_s, h1]; done) | (simp [nAddUnits, er, ms_s, h1]; done) | (simp [nAddUnits, er, ms_s, h1]; simp [tM, ms_o]; done); done) | contradiction | with_reducible assumption

set_option maxHeartbeats 4000000 in
set_option maxRecDepth 100000 in
theorem c_X3_units {l : Launch} {w : Wo} {M : Mem} {G : Lng} {x : Int32} (hnt : l.stackTraces = false) (hw : WK w) (hD : DM M) : CT l yX3_units [Cond.code yX3_units cX3_units 2 (some .int)] 7 0 0 w [.ref (w.1 (3, 0)), .int x] M G (nUnits M G x) := by
  refine CT_of hnt hw.1 mw_X3_units (by simp [Value.category]) (Nat.le_of_ble_eq_true rfl) (fun p e s m args below meth c X => ?_)
  refine r_aload_n X dX3_units_0 (i := 0) rfl rfl ?_
  refine r_iload_n X dX3_units_1 (i := 1) rfl rfl ?_
  refine r_callV X (c_X3_noEntitlement hnt hw ) mw_X3_noEntitlement kc3 mi_X3_noEntitlement (hw.2 _ _ (by first | decide | (simp [cnt] <;> omega))) ev3 ml_X3_106 rfl rfl (Nat.le_of_ble_eq_true rfl) (by first | decide | (simp only [rmv]; omega)) (by first | decide | (simp only [rmv]; omega)) (by first | decide | (simp only [rmv]; omega)) (by first | decide | (simp only [rmv]; omega)) dX3_units_2 (ko1 ?_)
  first | with_reducible refine r_ifb_eq X dX3_units_5 (tgt := 12) (by decide) (fun h1 => ?_) (fun h1 => ?_) | refine r_if_eq X dX3_units_5 (tgt := 12) (by decide) (fun h1 => ?_) (fun h1 => ?_)
  · rw [h1]
    have hy1 := (nte_Rg hD h1).1
    have hy2 := (nte_Rg hD h1).2
    refine r_aload_n X dX3_units_12 (i := 0) rfl rfl ?_
    refine r_get X kc3 (j := 20) (hw.2 _ _ (by first | decide | (simp [cnt] <;> omega))) ev3 (by decide) rfl fl_X3_53 dX3_units_13 ?_
    refine r_iload_n X dX3_units_16 (i := 1) rfl rfl ?_
    refine r_iald X (hw.2 _ _ (by first | decide | (simp [cnt] <;> omega))) (evA (by decide) (by decide)) (by first | with_reducible rfl | with_reducible assumption | (rw [pk_mul, nI_add])) (by first | with_reducible assumption | (simp [alen] <;> omega)) (by decide) dX3_units_17 ?_
    refine r_iret X dX3_units_18 (by first | decide | (simp only [rmv]; omega)) (by first | decide | (simp only [rmv]; omega)) ?_
    first | with_reducible rfl | (first | (simp [nUnits, er, h1]; done) | (simp [nUnits, er, tM, ms_o, ms_s, h1]; done) | (simp [nUnits, er, ms_s, h1]; done) | (simp [nUnits, er, ms_s, h1]; simp [tM, ms_o]; done); done) | contradiction | with_reducible assumption
  · rw [h1]
    refine r_iconst X dX3_units_8 (v := nI 0) (by decide) ?_
    refine r_goto X dX3_units_9 (tgt := 18) (by decide) ?_
    refine r_iret X dX3_units_18 (by first | decide | (simp only [rmv]; omega)) (by first | decide | (simp only [rmv]; omega)) ?_
    first | with_reducible rfl | (first | (simp [nUnits, er, h1]; done) | (simp [nUnits, er, tM, ms_o, ms_s, h1]; done) | (simp [nUnits, er, ms_s, h1]; done) | (simp [nUnits, er, ms_s, h1]; simp [tM, ms_o]; done); done) | contradiction | with_reducible assumption

end N1
