/-! LOOKUPS AND WRITES OF THE CLASS -/
section M3
def thr (M : Mem) (x : Int32) : Bool := btw x (nI 0) (nI 11) && !decide (M 1 (ix x) 0 = 0)
theorem thr_Rg {M : Mem} {x : Int32} (h : thr M x = true) : Rg x 12 := by
  simp only [thr, Bool.and_eq_true] at h
  exact btw_Rg h.1 (by decide)
def eth (M : Mem) (x : Int32) : Bool := btw x (nI 0) (M 2 0 4 - nI 1)
theorem eth_nI {M : Mem} (hD : DI M) (x : Int32) : eth M x = true ↔ Rg x (ix (M 2 0 4)) := by
  obtain ⟨h1, h2⟩ := hD.2.2.1
  unfold eth
  rw [h1, ixn (show ix (M 2 0 4) < 2 ^ 31 by omega)]
  generalize ix (M 2 0 4) = n at h2
  match n, h2 with
  | 0, _ =>
    constructor
    · intro h
      simp only [btw, Bool.and_eq_true, Bool.not_eq_true', decide_eq_false_iff_not] at h
      obtain ⟨j, hj, rfl⟩ := nI_of (x := x) h.1
      exact absurd h.2 (by
        rw [Decidable.not_not, show nI 0 - nI 1 = -1 from by decide, Int32.lt_iff_toInt_lt, nI_toInt hj]
        show (-1 : Int) < _
        omega)
    · intro h
      exact absurd h.2 (Nat.not_lt_zero _)
  | n + 1, hn =>
    rw [pk_sub (by omega), show n + 1 - 1 = n by omega]
    exact ⟨fun h => btw_Rg h (by omega), fun h => h.btw (by omega)⟩
theorem eth_Rg {M : Mem} {x : Int32} (hD : DI M) (h : eth M x = true) : Rg x 5 := by
  have h1 := (eth_nI hD x).mp h
  have h2 := hD.2.2.1.2
  exact ⟨h1.1, by have := h1.2; omega⟩
theorem Rg_lt {x : Int32} {n m : Nat} (h : Rg x n) (hn : n ≤ 2 ^ 31) (hm : m < 2 ^ 31) (hx : x < nI m) : Rg x m := by
  refine ⟨h.1, ?_⟩
  rw [h.1, nI_ltI (by have := h.2; omega) hm] at hx
  exact hx
def fillI (M : Mem) (i : Nat) (p v e d u c q : Int32) : Mem := ms (ms (ms (ms (ms (ms (ms (ms M 1 i 0 (nI 1)) 1 i 1 p) 1 i 2 v) 1 i 3 e) 1 i 4 d) 1 i 5 u) 1 i 6 c) 1 i 7 q
def fillE (M : Mem) (e : Nat) (pr v ed m u po : Int32) : Mem := ms (ms (ms (ms (ms (ms (ms (ms M 0 e 0 pr) 0 e 1 v) 0 e 2 ed) 0 e 3 m) 0 e 4 u) 0 e 5 po) 0 e 6 (nI 1)) 0 e 7 (nI 10)
def fitI (p v e d u c q : Int32) : Bool := btw p (nI 0) (nI 3) && rel v e && hol d && hol u && btw c (nI 1) (nI 16) && pol q
def fitE (pr v ed m u po : Int32) : Bool := btw pr (nI 1) (nI 15) && rel v ed && met m && btw u (nI 0) (nI 99) && (pol po || decide (po = -1))
def oInstall (M : Mem) (G : Lng) (p v e d u c q : Int32) : Oc :=
  if fitI p v e d u c q = true then
    if nI 6 ≤ M 2 0 3 ∨ ¬ M 2 0 2 < nI 12 then thO xISE M G
    else okO (some (.int (M 2 0 2))) (ms (ms (fillI M (ix (M 2 0 2)) p v e d u c q) 2 0 2 (M 2 0 2 + nI 1)) 2 0 3 (M 2 0 3 + nI 1)) G
  else thO xIAE M G
def oRetire (M : Mem) (G : Lng) (x : Int32) : Oc := if thr M x = true then okO (some (.int (M 2 0 3 - nI 1))) (ms (ms M 1 (ix x) 0 (nI 0)) 2 0 3 (M 2 0 3 - nI 1)) G else thO xIOB M G
def oMoveTo (M : Mem) (G : Lng) (x d u : Int32) : Oc := if thr M x = true then (if (hol d && hol u) = true then okO (some (.int (M 1 (ix x) 4))) (ms (ms M 1 (ix x) 4 d) 1 (ix x) 5 u) G else thO xIAE M G) else thO xIOB M G
def oSetVersion (M : Mem) (G : Lng) (x v e : Int32) : Oc := if thr M x = true then (if rel v e = true then okO (some (.int (M 1 (ix x) 2))) (ms (ms M 1 (ix x) 2 v) 1 (ix x) 3 e) G else thO xIAE M G) else thO xIOB M G
def oSetPool (M : Mem) (G : Lng) (x q : Int32) : Oc := if thr M x = true then (if pol q = true then okO (some (.int (M 1 (ix x) 7))) (ms M 1 (ix x) 7 q) G else thO xIAE M G) else thO xIOB M G
def oEntitle (M : Mem) (G : Lng) (pr v ed m u po : Int32) : Oc :=
  if fitE pr v ed m u po = true then
    if ¬ M 2 0 4 < nI 5 then thO xISE M G
    else okO (some (.int (M 2 0 4))) (ms (fillE M (ix (M 2 0 4)) pr v ed m u po) 2 0 4 (M 2 0 4 + nI 1)) G
  else thO xIAE M G
def cr (M : Mem) (e : Nat) : Int32 := (if M 0 e 8 = 0 then nI 0 else nI 1) + (if M 0 e 9 = 0 then nI 0 else nI 1) + (if M 0 e 10 = 0 then nI 0 else nI 1)
def oSetRights (M : Mem) (G : Lng) (x : Int32) (a b c : Bool) : Oc := if eth M x = true then okO (some (.int (cr M (ix x)))) (ms (ms (ms M 0 (ix x) 8 (bi a)) 0 (ix x) 9 (bi b)) 0 (ix x) 10 (bi c)) G else thO xIOB M G
def oSetMinimum (M : Mem) (G : Lng) (x c : Int32) : Oc := if eth M x = true then (if btw c (nI 1) (nI 16) = true then (if M 0 (ix x) 3 = nI 99 then okO (some (.int (M 0 (ix x) 6))) (ms M 0 (ix x) 6 c) G else thO xUOE M G) else thO xIAE M G) else thO xIOB M G
def oSetPrice (M : Mem) (G : Lng) (x c : Int32) : Oc := if eth M x = true then (if btw c (nI 1) (nI 99) = true then okO (some (.int (M 0 (ix x) 7))) (ms M 0 (ix x) 7 c) G else thO xIAE M G) else thO xIOB M G
def oAddUnits (M : Mem) (G : Lng) (x u : Int32) : Oc := if eth M x = true then (if btw u (nI 1) (nI 99) = true then (if M 0 (ix x) 4 + u ≤ nI 999 then okO (some (.int (M 0 (ix x) 4 + u))) (ms M 0 (ix x) 4 (M 0 (ix x) 4 + u)) G else thO xISE M G) else thO xIAE M G) else thO xIOB M G
def oUnits (M : Mem) (G : Lng) (x : Int32) : Oc := if eth M x = true then okO (some (.int (M 0 (ix x) 4))) M G else thO xIOB M G
def oWhy (M : Mem) (G : Lng) (x y : Int32) : Oc := if thr M x = true then (if eth M y = true then okO (some (.int (mis M (ix y) (ix x)))) M G else thO xIOB M G) else thO xIOB M G
theorem mis_c (M : Mem) (e i : Nat) : narrow .char (.int (mis M e i)) = .int (mis M e i) := by
  unfold mis
  split
  · rfl
  · split
    · rfl
    · split
      · rfl
      · split <;> rfl
set_option maxHeartbeats 4000000 in
set_option maxRecDepth 100000 in
theorem c_X1_fill {l : Launch} {w : Wo} {M : Mem} {G : Lng} {i : Nat} {p9 v9 e9 d9 c9 u9 q9 : Int32} (hnt : l.stackTraces = false) (hw : WK w) (hi : i < 12) : CT l yX1_fill [Cond.code yX1_fill cX1_fill 8 none] 1 0 0 w [.ref (w.1 (1, i)), .int p9, .int v9, .int e9, .int d9, .int c9, .int u9, .int q9] M G (okO none (fillI M i p9 v9 e9 d9 c9 u9 q9) G) := by
  refine CT_of hnt hw.1 mw_X1_fill (by simp [Value.category]) (Nat.le_of_ble_eq_true rfl) (fun p e s m args below meth c X => ?_)
  refine r_aload_n X dX1_fill_0 (i := 0) rfl rfl ?_
  refine r_iconst X dX1_fill_1 (v := nI 1) (by decide) ?_
  refine r_put X kc1 (j := 0) (hw.2 _ _ (by first | decide | (simp [cnt] <;> omega))) ev1 (by decide) (Nat.le_of_ble_eq_true rfl) fl_X1_7 rfl (by first | exact nzb _ | rfl) (by first | exact fzb _ | rfl) dX1_fill_2 es_1_0 ?_
  refine r_aload_n X dX1_fill_5 (i := 0) rfl rfl ?_
  refine r_iload_n X dX1_fill_6 (i := 1) rfl rfl ?_
  refine r_put X kc1 (j := 1) (hw.2 _ _ (by first | decide | (simp [cnt] <;> omega))) ev1 (by decide) (Nat.le_of_ble_eq_true rfl) fl_X1_13 rfl rfl rfl dX1_fill_7 es_1_1 ?_
  refine r_aload_n X dX1_fill_10 (i := 0) rfl rfl ?_
  refine r_iload_n X dX1_fill_11 (i := 2) rfl rfl ?_
  refine r_put X kc1 (j := 2) (hw.2 _ _ (by first | decide | (simp [cnt] <;> omega))) ev1 (by decide) (Nat.le_of_ble_eq_true rfl) fl_X1_17 rfl rfl rfl dX1_fill_12 es_1_2 ?_
  refine r_aload_n X dX1_fill_15 (i := 0) rfl rfl ?_
  refine r_iload_n X dX1_fill_16 (i := 3) rfl rfl ?_
  refine r_put X kc1 (j := 3) (hw.2 _ _ (by first | decide | (simp [cnt] <;> omega))) ev1 (by decide) (Nat.le_of_ble_eq_true rfl) fl_X1_20 rfl rfl rfl dX1_fill_17 es_1_3 ?_
  refine r_aload_n X dX1_fill_20 (i := 0) rfl rfl ?_
  refine r_iload X dX1_fill_21 rfl ?_
  refine r_put X kc1 (j := 4) (hw.2 _ _ (by first | decide | (simp [cnt] <;> omega))) ev1 (by decide) (Nat.le_of_ble_eq_true rfl) fl_X1_23 rfl rfl rfl dX1_fill_23 es_1_4 ?_
  refine r_aload_n X dX1_fill_26 (i := 0) rfl rfl ?_
  refine r_iload X dX1_fill_27 rfl ?_
  refine r_put X kc1 (j := 5) (hw.2 _ _ (by first | decide | (simp [cnt] <;> omega))) ev1 (by decide) (Nat.le_of_ble_eq_true rfl) fl_X1_26 rfl rfl rfl dX1_fill_29 es_1_5 ?_
  refine r_aload_n X dX1_fill_32 (i := 0) rfl rfl ?_
  refine r_iload X dX1_fill_33 rfl ?_
  refine r_put X kc1 (j := 6) (hw.2 _ _ (by first | decide | (simp [cnt] <;> omega))) ev1 (by decide) (Nat.le_of_ble_eq_true rfl) fl_X1_29 rfl rfl rfl dX1_fill_35 es_1_6 ?_
  refine r_aload_n X dX1_fill_38 (i := 0) rfl rfl ?_
  refine r_iload X dX1_fill_39 rfl ?_
  refine r_put X kc1 (j := 7) (hw.2 _ _ (by first | decide | (simp [cnt] <;> omega))) ev1 (by decide) (Nat.le_of_ble_eq_true rfl) fl_X1_32 rfl rfl rfl dX1_fill_41 es_1_7 ?_
  refine r_vret X dX1_fill_44 (by first | decide | (simp only [rmv]; omega)) (by first | decide | (simp only [rmv]; omega)) ?_
  first | with_reducible rfl | (rfl; done) | contradiction | with_reducible assumption

set_option maxHeartbeats 4000000 in
set_option maxRecDepth 100000 in
theorem c_X0_fill {l : Launch} {w : Wo} {M : Mem} {G : Lng} {i : Nat} {p9 v9 d9 m9 u9 q9 : Int32} (hnt : l.stackTraces = false) (hw : WK w) (hi : i < 5) (hm1 : narrow .char (.int m9) = .int m9) (hm2 : fits .char (.int m9) = true) : CT l yX0_fill [Cond.code yX0_fill cX0_fill 7 none] 1 0 0 w [.ref (w.1 (0, i)), .int p9, .int v9, .int d9, .int m9, .int u9, .int q9] M G (okO none (fillE M i p9 v9 d9 m9 u9 q9) G) := by
  refine CT_of hnt hw.1 mw_X0_fill (by simp [Value.category]) (Nat.le_of_ble_eq_true rfl) (fun p e s m args below meth c X => ?_)
  refine r_aload_n X dX0_fill_0 (i := 0) rfl rfl ?_
  refine r_iload_n X dX0_fill_1 (i := 1) rfl rfl ?_
  refine r_put X kc0 (j := 0) (hw.2 _ _ (by first | decide | (simp [cnt] <;> omega))) ev0 (by decide) (Nat.le_of_ble_eq_true rfl) fl_X0_15 rfl rfl rfl dX0_fill_2 es_0_0 ?_
  refine r_aload_n X dX0_fill_5 (i := 0) rfl rfl ?_
  refine r_iload_n X dX0_fill_6 (i := 2) rfl rfl ?_
  refine r_put X kc0 (j := 1) (hw.2 _ _ (by first | decide | (simp [cnt] <;> omega))) ev0 (by decide) (Nat.le_of_ble_eq_true rfl) fl_X0_19 rfl rfl rfl dX0_fill_7 es_0_1 ?_
  refine r_aload_n X dX0_fill_10 (i := 0) rfl rfl ?_
  refine r_iload_n X dX0_fill_11 (i := 3) rfl rfl ?_
  refine r_put X kc0 (j := 2) (hw.2 _ _ (by first | decide | (simp [cnt] <;> omega))) ev0 (by decide) (Nat.le_of_ble_eq_true rfl) fl_X0_22 rfl rfl rfl dX0_fill_12 es_0_2 ?_
  refine r_aload_n X dX0_fill_15 (i := 0) rfl rfl ?_
  refine r_iload X dX0_fill_16 rfl ?_
  refine r_put X kc0 (j := 3) (hw.2 _ _ (by first | decide | (simp [cnt] <;> omega))) ev0 (by decide) (Nat.le_of_ble_eq_true rfl) fl_X0_25 rfl (by assumption) (by assumption) dX0_fill_18 es_0_3 ?_
  refine r_aload_n X dX0_fill_21 (i := 0) rfl rfl ?_
  refine r_iload X dX0_fill_22 rfl ?_
  refine r_put X kc0 (j := 4) (hw.2 _ _ (by first | decide | (simp [cnt] <;> omega))) ev0 (by decide) (Nat.le_of_ble_eq_true rfl) fl_X0_29 rfl rfl rfl dX0_fill_24 es_0_4 ?_
  refine r_aload_n X dX0_fill_27 (i := 0) rfl rfl ?_
  refine r_iload X dX0_fill_28 rfl ?_
  refine r_put X kc0 (j := 5) (hw.2 _ _ (by first | decide | (simp [cnt] <;> omega))) ev0 (by decide) (Nat.le_of_ble_eq_true rfl) fl_X0_32 rfl rfl rfl dX0_fill_30 es_0_5 ?_
  refine r_aload_n X dX0_fill_33 (i := 0) rfl rfl ?_
  refine r_iconst X dX0_fill_34 (v := nI 1) (by decide) ?_
  refine r_put X kc0 (j := 6) (hw.2 _ _ (by first | decide | (simp [cnt] <;> omega))) ev0 (by decide) (Nat.le_of_ble_eq_true rfl) fl_X0_35 rfl rfl rfl dX0_fill_35 es_0_6 ?_
  refine r_aload_n X dX0_fill_38 (i := 0) rfl rfl ?_
  refine r_bipush X dX0_fill_39 (v := nI 10) (by decide) ?_
  refine r_put X kc0 (j := 7) (hw.2 _ _ (by first | decide | (simp [cnt] <;> omega))) ev0 (by decide) (Nat.le_of_ble_eq_true rfl) fl_X0_38 rfl rfl rfl dX0_fill_41 es_0_7 ?_
  refine r_vret X dX0_fill_44 (by first | decide | (simp only [rmv]; omega)) (by first | decide | (simp only [rmv]; omega)) ?_
  first | with_reducible rfl | (rfl; done) | contradiction | with_reducible assumption

set_option maxHeartbeats 4000000 in
set_option maxRecDepth 100000 in
theorem c_X2_isThere {l : Launch} {w : Wo} {M : Mem} {G : Lng} {x : Int32} (hnt : l.stackTraces = false) (hw : WK w)  : CT l yX2_isThere [Cond.code yX2_isThere cX2_isThere 2 (some .boolean)] 2 0 0 w [.ref (w.1 (2, 0)), .int x] M G (okO (some (.int (bi (thr M x)))) M G) := by
  refine CT_of hnt hw.1 mw_X2_isThere (by simp [Value.category]) (Nat.le_of_ble_eq_true rfl) (fun p e s m args below meth c X => ?_)
  refine r_iload_n X dX2_isThere_0 (i := 1) rfl rfl ?_
  refine r_iconst X dX2_isThere_1 (v := nI 0) (by decide) ?_
  refine r_bipush X dX2_isThere_2 (v := nI 11) (by decide) ?_
  refine r_callS X (c_X2_isBetween hnt hw ) mw_X2_isBetween mi_X2_isBetween ml_X2_33 rfl rfl (Nat.le_of_ble_eq_true rfl) (by first | decide | (simp only [rmv]; omega)) (by first | decide | (simp only [rmv]; omega)) (by first | decide | (simp only [rmv]; omega)) (by first | decide | (simp only [rmv]; omega)) dX2_isThere_4 (ko1 ?_)
  first | with_reducible refine r_ifb_eq X dX2_isThere_7 (tgt := 26) (by decide) (fun h1 => ?_) (fun h1 => ?_) | refine r_if_eq X dX2_isThere_7 (tgt := 26) (by decide) (fun h1 => ?_) (fun h1 => ?_)
  · refine r_iconst X dX2_isThere_26 (v := nI 0) (by decide) ?_
    refine r_zret X dX2_isThere_27 (by first | decide | (simp only [rmv]; omega)) (by first | decide | (simp only [rmv]; omega)) (by with_reducible rfl) ?_
    first | with_reducible rfl | (simp [thr, bi_f, bi_t, h1]; done) | contradiction
  · have hx1 := (btw_Rg h1 (by decide)).1
    have hx2 := (btw_Rg h1 (by decide)).2
    refine r_aload_n X dX2_isThere_10 (i := 0) rfl rfl ?_
    refine r_get X kc2 (j := 0) (hw.2 _ _ (by first | decide | (simp [cnt] <;> omega))) ev2 (by decide) rfl fl_X2_11 dX2_isThere_11 ?_
    refine r_iload_n X dX2_isThere_14 (i := 1) rfl rfl ?_
    first | refine r_aald X (t0 := 6) (hw.2 _ _ (by first | decide | (simp [cnt] <;> omega))) rfl ev4 (by first | with_reducible rfl | with_reducible assumption | (rw [pk_mul, nI_add])) (by first | with_reducible assumption | omega) (by decide) rfl dX2_isThere_15 ?_ | refine r_aald X (t0 := 5) (hw.2 _ _ (by first | decide | (simp [cnt] <;> omega))) rfl ev5 (by first | with_reducible rfl | with_reducible assumption | (rw [pk_mul, nI_add])) (by first | with_reducible assumption | omega) (by decide) rfl dX2_isThere_15 ?_
    refine r_getN X kc1 (j := 0) (hw.2 _ _ (by first | decide | (simp [cnt] <;> omega))) ev1 (by decide) rfl fl_X2_75 dX2_isThere_16 ?_
    first | with_reducible refine r_ifb_eq X dX2_isThere_19 (tgt := 26) (by decide) (fun h2 => ?_) (fun h2 => ?_) | refine r_if_eq X dX2_isThere_19 (tgt := 26) (by decide) (fun h2 => ?_) (fun h2 => ?_)
    · refine r_iconst X dX2_isThere_26 (v := nI 0) (by decide) ?_
      refine r_zret X dX2_isThere_27 (by first | decide | (simp only [rmv]; omega)) (by first | decide | (simp only [rmv]; omega)) (by with_reducible rfl) ?_
      first | with_reducible rfl | (simp [thr, bi_f, bi_t, h1, h2]; done) | contradiction
    · refine r_iconst X dX2_isThere_22 (v := nI 1) (by decide) ?_
      refine r_goto X dX2_isThere_23 (tgt := 27) (by decide) ?_
      refine r_zret X dX2_isThere_27 (by first | decide | (simp only [rmv]; omega)) (by first | decide | (simp only [rmv]; omega)) (by with_reducible rfl) ?_
      first | with_reducible rfl | (simp [thr, bi_f, bi_t, h1, h2]; done) | contradiction

set_option maxHeartbeats 4000000 in
set_option maxRecDepth 100000 in
theorem c_X2_installAt {l : Launch} {w : Wo} {M : Mem} {G : Lng} {x : Int32} (hnt : l.stackTraces = false) (hw : WK w)  : CT l yX2_installAt [Cond.code yX2_installAt cX2_installAt 2 (some (.object "Entitled$Install"))] 6 1 6 w [.ref (w.1 (2, 0)), .int x] M G (if thr M x = true then okO (some (.ref (w.1 (1, ix x)))) M G else thO xIOB M G) := by
  refine CT_of hnt hw.1 mw_X2_installAt (by simp [Value.category]) (Nat.le_of_ble_eq_true rfl) (fun p e s m args below meth c X => ?_)
  refine r_aload_n X dX2_installAt_0 (i := 0) rfl rfl ?_
  refine r_iload_n X dX2_installAt_1 (i := 1) rfl rfl ?_
  refine r_callV X (c_X2_isThere hnt hw ) mw_X2_isThere kc2 mi_X2_isThere (hw.2 _ _ (by first | decide | (simp [cnt] <;> omega))) ev2 ml_X2_234 rfl rfl (Nat.le_of_ble_eq_true rfl) (by first | decide | (simp only [rmv]; omega)) (by first | decide | (simp only [rmv]; omega)) (by first | decide | (simp only [rmv]; omega)) (by first | decide | (simp only [rmv]; omega)) dX2_installAt_2 (ko1 ?_)
  first | with_reducible refine r_ifb_ne X dX2_installAt_5 (tgt := 18) (by decide) (fun h1 => ?_) (fun h1 => ?_) | refine r_if_ne X dX2_installAt_5 (tgt := 18) (by decide) (fun h1 => ?_) (fun h1 => ?_)
  · have hx1 := (thr_Rg h1).1
    have hx2 := (thr_Rg h1).2
    refine r_aload_n X dX2_installAt_18 (i := 0) rfl rfl ?_
    refine r_get X kc2 (j := 0) (hw.2 _ _ (by first | decide | (simp [cnt] <;> omega))) ev2 (by decide) rfl fl_X2_11 dX2_installAt_19 ?_
    refine r_iload_n X dX2_installAt_22 (i := 1) rfl rfl ?_
    first | refine r_aald X (t0 := 6) (hw.2 _ _ (by first | decide | (simp [cnt] <;> omega))) rfl ev4 (by first | with_reducible rfl | with_reducible assumption | (rw [pk_mul, nI_add])) (by first | with_reducible assumption | omega) (by decide) rfl dX2_installAt_23 ?_ | refine r_aald X (t0 := 5) (hw.2 _ _ (by first | decide | (simp [cnt] <;> omega))) rfl ev5 (by first | with_reducible rfl | with_reducible assumption | (rw [pk_mul, nI_add])) (by first | with_reducible assumption | omega) (by decide) rfl dX2_installAt_23 ?_
    refine r_aret X dX2_installAt_24 (by first | decide | (simp only [rmv]; omega)) (by first | decide | (simp only [rmv]; omega)) ?_
    first | with_reducible rfl | (simp [h1]; done) | contradiction | with_reducible assumption
  · refine r_throwS X (cls := xIOB) (by decide +kernel) kl_237 ki_xIOB (sw_239) at_xIOB dX2_installAt_8 dX2_installAt_11 dX2_installAt_12 dX2_installAt_14 dX2_installAt_17 (by first | decide | (simp only [rmv]; omega)) (by first | decide | (simp [Value.category, rmv] <;> omega)) (by first | decide | (simp only [rmv]; omega)) (by first | decide | (simp only [rmv]; omega)) (by first | decide | (simp only [rmv]; omega)) (by first | decide | (simp only [rmv]; omega)) ?_
    simp [h1]

set_option maxHeartbeats 4000000 in
set_option maxRecDepth 100000 in
theorem c_X2_entitlementAt {l : Launch} {w : Wo} {M : Mem} {G : Lng} {x : Int32} (hnt : l.stackTraces = false) (hw : WK w) (hD : DI M) : CT l yX2_entitlementAt [Cond.code yX2_entitlementAt cX2_entitlementAt 2 (some (.object "Entitled$Entitlement"))] 6 1 6 w [.ref (w.1 (2, 0)), .int x] M G (if eth M x = true then okO (some (.ref (w.1 (0, ix x)))) M G else thO xIOB M G) := by
  refine CT_of hnt hw.1 mw_X2_entitlementAt (by simp [Value.category]) (Nat.le_of_ble_eq_true rfl) (fun p e s m args below meth c X => ?_)
  refine r_iload_n X dX2_entitlementAt_0 (i := 1) rfl rfl ?_
  refine r_iconst X dX2_entitlementAt_1 (v := nI 0) (by decide) ?_
  refine r_aload_n X dX2_entitlementAt_2 (i := 0) rfl rfl ?_
  refine r_get X kc2 (j := 4) (hw.2 _ _ (by first | decide | (simp [cnt] <;> omega))) ev2 (by decide) rfl fl_X2_106 dX2_entitlementAt_3 ?_
  refine r_iconst X dX2_entitlementAt_6 (v := nI 1) (by decide) ?_
  refine r_isub X dX2_entitlementAt_7 ?_
  refine r_callS X (c_X2_isBetween hnt hw ) mw_X2_isBetween mi_X2_isBetween ml_X2_33 rfl rfl (Nat.le_of_ble_eq_true rfl) (by first | decide | (simp only [rmv]; omega)) (by first | decide | (simp only [rmv]; omega)) (by first | decide | (simp only [rmv]; omega)) (by first | decide | (simp only [rmv]; omega)) dX2_entitlementAt_8 (ko1 ?_)
  first | with_reducible refine r_ifb_ne X dX2_entitlementAt_11 (tgt := 24) (by decide) (fun h1 => ?_) (fun h1 => ?_) | refine r_if_ne X dX2_entitlementAt_11 (tgt := 24) (by decide) (fun h1 => ?_) (fun h1 => ?_)
  · have hx1 := (eth_Rg hD h1).1
    have hx2 := (eth_Rg hD h1).2
    refine r_aload_n X dX2_entitlementAt_24 (i := 0) rfl rfl ?_
    refine r_get X kc2 (j := 1) (hw.2 _ _ (by first | decide | (simp [cnt] <;> omega))) ev2 (by decide) rfl fl_X2_18 dX2_entitlementAt_25 ?_
    refine r_iload_n X dX2_entitlementAt_28 (i := 1) rfl rfl ?_
    first | refine r_aald X (t0 := 6) (hw.2 _ _ (by first | decide | (simp [cnt] <;> omega))) rfl ev4 (by first | with_reducible rfl | with_reducible assumption | (rw [pk_mul, nI_add])) (by first | with_reducible assumption | omega) (by decide) rfl dX2_entitlementAt_29 ?_ | refine r_aald X (t0 := 5) (hw.2 _ _ (by first | decide | (simp [cnt] <;> omega))) rfl ev5 (by first | with_reducible rfl | with_reducible assumption | (rw [pk_mul, nI_add])) (by first | with_reducible assumption | omega) (by decide) rfl dX2_entitlementAt_29 ?_
    refine r_aret X dX2_entitlementAt_30 (by first | decide | (simp only [rmv]; omega)) (by first | decide | (simp only [rmv]; omega)) ?_
    first | with_reducible rfl | (simp [eth, h1]; done) | contradiction | with_reducible assumption
  · refine r_throwS X (cls := xIOB) (by decide +kernel) kl_237 ki_xIOB (sw_242) at_xIOB dX2_entitlementAt_14 dX2_entitlementAt_17 dX2_entitlementAt_18 dX2_entitlementAt_20 dX2_entitlementAt_23 (by first | decide | (simp only [rmv]; omega)) (by first | decide | (simp [Value.category, rmv] <;> omega)) (by first | decide | (simp only [rmv]; omega)) (by first | decide | (simp only [rmv]; omega)) (by first | decide | (simp only [rmv]; omega)) (by first | decide | (simp only [rmv]; omega)) ?_
    simp [eth, h1]

set_option maxHeartbeats 4000000 in
set_option maxRecDepth 100000 in
theorem c_X2_install {l : Launch} {w : Wo} {M : Mem} {G : Lng} {p9 v9 e9 d9 c9 u9 q9 : Int32} (hnt : l.stackTraces = false) (hw : WK w) (hD : DI M) : CT l yX2_install [Cond.code yX2_install cX2_install 9 (some .int)] 7 4 24 w [.ref (w.1 (2, 0)), .int p9, .int v9, .int e9, .int d9, .int c9, .int u9, .int q9] M G (oInstall M G p9 v9 e9 d9 c9 u9 q9) := by
  refine CT_of hnt hw.1 mw_X2_install (by simp [Value.category]) (Nat.le_of_ble_eq_true rfl) (fun p e s m args below meth c X => ?_)
  refine r_iload_n X dX2_install_0 (i := 1) rfl rfl ?_
  refine r_iconst X dX2_install_1 (v := nI 0) (by decide) ?_
  refine r_iconst X dX2_install_2 (v := nI 3) (by decide) ?_
  refine r_callS X (c_X2_isBetween hnt hw ) mw_X2_isBetween mi_X2_isBetween ml_X2_33 rfl rfl (Nat.le_of_ble_eq_true rfl) (by first | decide | (simp only [rmv]; omega)) (by first | decide | (simp only [rmv]; omega)) (by first | decide | (simp only [rmv]; omega)) (by first | decide | (simp only [rmv]; omega)) dX2_install_3 (ko1 ?_)
  first | with_reducible refine r_ifb_eq X dX2_install_6 (tgt := 52) (by decide) (fun h1 => ?_) (fun h1 => ?_) | refine r_if_eq X dX2_install_6 (tgt := 52) (by decide) (fun h1 => ?_) (fun h1 => ?_)
  · refine r_throwS X (cls := xIAE) (by decide +kernel) kl_48 ki_xIAE (sw_50) at_xIAE dX2_install_52 dX2_install_55 dX2_install_56 dX2_install_58 dX2_install_61 (by first | decide | (simp only [rmv]; omega)) (by first | decide | (simp [Value.category, rmv] <;> omega)) (by first | decide | (simp only [rmv]; omega)) (by first | decide | (simp only [rmv]; omega)) (by first | decide | (simp only [rmv]; omega)) (by first | decide | (simp only [rmv]; omega)) ?_
    simp [oInstall, fitI, fillI, ms_o, ms_s, h1]
  · refine r_iload_n X dX2_install_9 (i := 2) rfl rfl ?_
    refine r_iload_n X dX2_install_10 (i := 3) rfl rfl ?_
    refine r_callS X (c_X2_isRelease hnt hw ) mw_X2_isRelease mi_X2_isRelease ml_X2_37 rfl rfl (Nat.le_of_ble_eq_true rfl) (by first | decide | (simp only [rmv]; omega)) (by first | decide | (simp only [rmv]; omega)) (by first | decide | (simp only [rmv]; omega)) (by first | decide | (simp only [rmv]; omega)) dX2_install_11 (ko1 ?_)
    first | with_reducible refine r_ifb_eq X dX2_install_14 (tgt := 52) (by decide) (fun h2 => ?_) (fun h2 => ?_) | refine r_if_eq X dX2_install_14 (tgt := 52) (by decide) (fun h2 => ?_) (fun h2 => ?_)
    · refine r_throwS X (cls := xIAE) (by decide +kernel) kl_48 ki_xIAE (sw_50) at_xIAE dX2_install_52 dX2_install_55 dX2_install_56 dX2_install_58 dX2_install_61 (by first | decide | (simp only [rmv]; omega)) (by first | decide | (simp [Value.category, rmv] <;> omega)) (by first | decide | (simp only [rmv]; omega)) (by first | decide | (simp only [rmv]; omega)) (by first | decide | (simp only [rmv]; omega)) (by first | decide | (simp only [rmv]; omega)) ?_
      simp [oInstall, fitI, fillI, ms_o, ms_s, h1, h2]
    · refine r_iload X dX2_install_17 rfl ?_
      refine r_callS X (c_X2_isHolder hnt hw ) mw_X2_isHolder mi_X2_isHolder ml_X2_41 rfl rfl (Nat.le_of_ble_eq_true rfl) (by first | decide | (simp only [rmv]; omega)) (by first | decide | (simp only [rmv]; omega)) (by first | decide | (simp only [rmv]; omega)) (by first | decide | (simp only [rmv]; omega)) dX2_install_19 (ko1 ?_)
      first | with_reducible refine r_ifb_eq X dX2_install_22 (tgt := 52) (by decide) (fun h3 => ?_) (fun h3 => ?_) | refine r_if_eq X dX2_install_22 (tgt := 52) (by decide) (fun h3 => ?_) (fun h3 => ?_)
      · refine r_throwS X (cls := xIAE) (by decide +kernel) kl_48 ki_xIAE (sw_50) at_xIAE dX2_install_52 dX2_install_55 dX2_install_56 dX2_install_58 dX2_install_61 (by first | decide | (simp only [rmv]; omega)) (by first | decide | (simp [Value.category, rmv] <;> omega)) (by first | decide | (simp only [rmv]; omega)) (by first | decide | (simp only [rmv]; omega)) (by first | decide | (simp only [rmv]; omega)) (by first | decide | (simp only [rmv]; omega)) ?_
        simp [oInstall, fitI, fillI, ms_o, ms_s, h1, h2, h3]
      · refine r_iload X dX2_install_25 rfl ?_
        refine r_callS X (c_X2_isHolder hnt hw ) mw_X2_isHolder mi_X2_isHolder ml_X2_41 rfl rfl (Nat.le_of_ble_eq_true rfl) (by first | decide | (simp only [rmv]; omega)) (by first | decide | (simp only [rmv]; omega)) (by first | decide | (simp only [rmv]; omega)) (by first | decide | (simp only [rmv]; omega)) dX2_install_27 (ko1 ?_)
        first | with_reducible refine r_ifb_eq X dX2_install_30 (tgt := 52) (by decide) (fun h4 => ?_) (fun h4 => ?_) | refine r_if_eq X dX2_install_30 (tgt := 52) (by decide) (fun h4 => ?_) (fun h4 => ?_)
        · refine r_throwS X (cls := xIAE) (by decide +kernel) kl_48 ki_xIAE (sw_50) at_xIAE dX2_install_52 dX2_install_55 dX2_install_56 dX2_install_58 dX2_install_61 (by first | decide | (simp only [rmv]; omega)) (by first | decide | (simp [Value.category, rmv] <;> omega)) (by first | decide | (simp only [rmv]; omega)) (by first | decide | (simp only [rmv]; omega)) (by first | decide | (simp only [rmv]; omega)) (by first | decide | (simp only [rmv]; omega)) ?_
          simp [oInstall, fitI, fillI, ms_o, ms_s, h1, h2, h3, h4]
        · refine r_iload X dX2_install_33 rfl ?_
          refine r_iconst X dX2_install_35 (v := nI 1) (by decide) ?_
          refine r_bipush X dX2_install_36 (v := nI 16) (by decide) ?_
          refine r_callS X (c_X2_isBetween hnt hw ) mw_X2_isBetween mi_X2_isBetween ml_X2_33 rfl rfl (Nat.le_of_ble_eq_true rfl) (by first | decide | (simp only [rmv]; omega)) (by first | decide | (simp only [rmv]; omega)) (by first | decide | (simp only [rmv]; omega)) (by first | decide | (simp only [rmv]; omega)) dX2_install_38 (ko1 ?_)
          first | with_reducible refine r_ifb_eq X dX2_install_41 (tgt := 52) (by decide) (fun h5 => ?_) (fun h5 => ?_) | refine r_if_eq X dX2_install_41 (tgt := 52) (by decide) (fun h5 => ?_) (fun h5 => ?_)
          · refine r_throwS X (cls := xIAE) (by decide +kernel) kl_48 ki_xIAE (sw_50) at_xIAE dX2_install_52 dX2_install_55 dX2_install_56 dX2_install_58 dX2_install_61 (by first | decide | (simp only [rmv]; omega)) (by first | decide | (simp [Value.category, rmv] <;> omega)) (by first | decide | (simp only [rmv]; omega)) (by first | decide | (simp only [rmv]; omega)) (by first | decide | (simp only [rmv]; omega)) (by first | decide | (simp only [rmv]; omega)) ?_
            simp [oInstall, fitI, fillI, ms_o, ms_s, h1, h2, h3, h4, h5]
          · refine r_iload X dX2_install_44 rfl ?_
            refine r_callS X (c_X2_isPool hnt hw ) mw_X2_isPool mi_X2_isPool ml_X2_45 rfl rfl (Nat.le_of_ble_eq_true rfl) (by first | decide | (simp only [rmv]; omega)) (by first | decide | (simp only [rmv]; omega)) (by first | decide | (simp only [rmv]; omega)) (by first | decide | (simp only [rmv]; omega)) dX2_install_46 (ko1 ?_)
            first | with_reducible refine r_ifb_ne X dX2_install_49 (tgt := 62) (by decide) (fun h6 => ?_) (fun h6 => ?_) | refine r_if_ne X dX2_install_49 (tgt := 62) (by decide) (fun h6 => ?_) (fun h6 => ?_)
            · refine r_aload_n X dX2_install_62 (i := 0) rfl rfl ?_
              refine r_get X kc2 (j := 3) (hw.2 _ _ (by first | decide | (simp [cnt] <;> omega))) ev2 (by decide) rfl fl_X2_55 dX2_install_63 ?_
              refine r_bipush X dX2_install_66 (v := nI 6) (by decide) ?_
              first | with_reducible refine r_icmpn_ge X dX2_install_68 (tgt := 80) (by decide) (by omega) (by omega) (fun h7 => ?_) (fun h7 => ?_) | refine r_icmp_ge X dX2_install_68 (tgt := 80) (by decide) (fun h7 => ?_) (fun h7 => ?_)
              · refine r_throwS X (cls := xISE) (by decide +kernel) kl_62 ki_xISE (sw_64) at_xISE dX2_install_80 dX2_install_83 dX2_install_84 dX2_install_86 dX2_install_89 (by first | decide | (simp only [rmv]; omega)) (by first | decide | (simp [Value.category, rmv] <;> omega)) (by first | decide | (simp only [rmv]; omega)) (by first | decide | (simp only [rmv]; omega)) (by first | decide | (simp only [rmv]; omega)) (by first | decide | (simp only [rmv]; omega)) ?_
                simp [oInstall, fitI, fillI, ms_o, ms_s, h1, h2, h3, h4, h5, h6, h7]
              · refine r_aload_n X dX2_install_71 (i := 0) rfl rfl ?_
                refine r_get X kc2 (j := 2) (hw.2 _ _ (by first | decide | (simp [cnt] <;> omega))) ev2 (by decide) rfl fl_X2_59 dX2_install_72 ?_
                refine r_bipush X dX2_install_75 (v := nI 12) (by decide) ?_
                first | with_reducible refine r_icmpn_lt X dX2_install_77 (tgt := 90) (by decide) (by omega) (by omega) (fun h8 => ?_) (fun h8 => ?_) | refine r_icmp_lt X dX2_install_77 (tgt := 90) (by decide) (fun h8 => ?_) (fun h8 => ?_)
                · have hm := Rg_lt hD.1 (by decide) (by decide) h8
                  have hm1 := hm.1
                  have hm2 := hm.2
                  refine r_aload_n X dX2_install_90 (i := 0) rfl rfl ?_
                  refine r_get X kc2 (j := 2) (hw.2 _ _ (by first | decide | (simp [cnt] <;> omega))) ev2 (by decide) rfl fl_X2_59 dX2_install_91 ?_
                  refine r_istore X dX2_install_94 (by decide) rfl ?_
                  refine r_aload_n X dX2_install_96 (i := 0) rfl rfl ?_
                  refine r_get X kc2 (j := 0) (hw.2 _ _ (by first | decide | (simp [cnt] <;> omega))) ev2 (by decide) rfl fl_X2_11 dX2_install_97 ?_
                  refine r_iload X dX2_install_100 rfl ?_
                  first | refine r_aald X (t0 := 6) (hw.2 _ _ (by first | decide | (simp [cnt] <;> omega))) rfl ev4 (by first | with_reducible rfl | with_reducible assumption | (rw [pk_mul, nI_add])) (by first | with_reducible assumption | omega) (by decide) rfl dX2_install_102 ?_ | refine r_aald X (t0 := 5) (hw.2 _ _ (by first | decide | (simp [cnt] <;> omega))) rfl ev5 (by first | with_reducible rfl | with_reducible assumption | (rw [pk_mul, nI_add])) (by first | with_reducible assumption | omega) (by decide) rfl dX2_install_102 ?_
                  refine r_iload_n X dX2_install_103 (i := 1) rfl rfl ?_
                  refine r_iload_n X dX2_install_104 (i := 2) rfl rfl ?_
                  refine r_iload_n X dX2_install_105 (i := 3) rfl rfl ?_
                  refine r_iload X dX2_install_106 rfl ?_
                  refine r_iload X dX2_install_108 rfl ?_
                  refine r_iload X dX2_install_110 rfl ?_
                  refine r_iload X dX2_install_112 rfl ?_
                  refine r_callVN X (c_X1_fill hnt hw (by first | with_reducible assumption | with_reducible rfl | omega | (with_reducible (repeat (first | assumption | refine DI_chg ?_ | refine DI_clr ?_ | refine DI_scr rfl ?_)); done))) mw_X1_fill kc1 mi_X1_fill (hw.2 _ _ (by first | decide | (simp [cnt] <;> omega))) ev1 ml_X2_67 rfl rfl (Nat.le_of_ble_eq_true rfl) (by first | decide | (simp only [rmv]; omega)) (by first | decide | (simp only [rmv]; omega)) (by first | decide | (simp only [rmv]; omega)) (by first | decide | (simp only [rmv]; omega)) dX2_install_114 (ko0 ?_)
                  refine r_aload_n X dX2_install_117 (i := 0) rfl rfl ?_
                  refine r_dup X dX2_install_118 rfl ?_
                  refine r_get X kc2 (j := 2) (hw.2 _ _ (by first | decide | (simp [cnt] <;> omega))) ev2 (by decide) rfl fl_X2_59 dX2_install_119 ?_
                  refine r_iconst X dX2_install_122 (v := nI 1) (by decide) ?_
                  refine r_iadd X dX2_install_123 ?_
                  refine r_put X kc2 (j := 2) (hw.2 _ _ (by first | decide | (simp [cnt] <;> omega))) ev2 (by decide) (Nat.le_of_ble_eq_true rfl) fl_X2_59 rfl rfl rfl dX2_install_124 es_2_2 ?_
                  refine r_aload_n X dX2_install_127 (i := 0) rfl rfl ?_
                  refine r_dup X dX2_install_128 rfl ?_
                  refine r_get X kc2 (j := 3) (hw.2 _ _ (by first | decide | (simp [cnt] <;> omega))) ev2 (by decide) rfl fl_X2_55 dX2_install_129 ?_
                  refine r_iconst X dX2_install_132 (v := nI 1) (by decide) ?_
                  refine r_iadd X dX2_install_133 ?_
                  refine r_put X kc2 (j := 3) (hw.2 _ _ (by first | decide | (simp [cnt] <;> omega))) ev2 (by decide) (Nat.le_of_ble_eq_true rfl) fl_X2_55 rfl rfl rfl dX2_install_134 es_2_3 ?_
                  refine r_iload X dX2_install_137 rfl ?_
                  refine r_iret X dX2_install_139 (by first | decide | (simp only [rmv]; omega)) (by first | decide | (simp only [rmv]; omega)) ?_
                  first | with_reducible rfl | (simp [oInstall, fitI, fillI, ms_o, ms_s, h1, h2, h3, h4, h5, h6, h7, h8]; done) | contradiction | with_reducible assumption
                · refine r_throwS X (cls := xISE) (by decide +kernel) kl_62 ki_xISE (sw_64) at_xISE dX2_install_80 dX2_install_83 dX2_install_84 dX2_install_86 dX2_install_89 (by first | decide | (simp only [rmv]; omega)) (by first | decide | (simp [Value.category, rmv] <;> omega)) (by first | decide | (simp only [rmv]; omega)) (by first | decide | (simp only [rmv]; omega)) (by first | decide | (simp only [rmv]; omega)) (by first | decide | (simp only [rmv]; omega)) ?_
                  simp [oInstall, fitI, fillI, ms_o, ms_s, h1, h2, h3, h4, h5, h6, h7, h8]
            · refine r_throwS X (cls := xIAE) (by decide +kernel) kl_48 ki_xIAE (sw_50) at_xIAE dX2_install_52 dX2_install_55 dX2_install_56 dX2_install_58 dX2_install_61 (by first | decide | (simp only [rmv]; omega)) (by first | decide | (simp [Value.category, rmv] <;> omega)) (by first | decide | (simp only [rmv]; omega)) (by first | decide | (simp only [rmv]; omega)) (by first | decide | (simp only [rmv]; omega)) (by first | decide | (simp only [rmv]; omega)) ?_
              simp [oInstall, fitI, fillI, ms_o, ms_s, h1, h2, h3, h4, h5, h6]

set_option maxHeartbeats 4000000 in
set_option maxRecDepth 100000 in
theorem c_X2_retire {l : Launch} {w : Wo} {M : Mem} {G : Lng} {x : Int32} (hnt : l.stackTraces = false) (hw : WK w)  : CT l yX2_retire [Cond.code yX2_retire cX2_retire 2 (some .int)] 7 4 24 w [.ref (w.1 (2, 0)), .int x] M G (oRetire M G x) := by
  refine CT_of hnt hw.1 mw_X2_retire (by simp [Value.category]) (Nat.le_of_ble_eq_true rfl) (fun p e s m args below meth c X => ?_)
  refine r_aload_n X dX2_retire_0 (i := 0) rfl rfl ?_
  refine r_iload_n X dX2_retire_1 (i := 1) rfl rfl ?_
  refine r_callV X (c_X2_installAt hnt hw ) mw_X2_installAt kc2 mi_X2_installAt (hw.2 _ _ (by first | decide | (simp [cnt] <;> omega))) ev2 ml_X2_71 rfl rfl (Nat.le_of_ble_eq_true rfl) (by first | decide | (simp only [rmv]; omega)) (by first | decide | (simp only [rmv]; omega)) (by first | decide | (simp only [rmv]; omega)) (by first | decide | (simp only [rmv]; omega)) dX2_retire_2 (koi (fun h1 => ko1 ?_) (fun h1 => kox ?_))
  · have hx1 := (thr_Rg h1).1
    have hx2 := (thr_Rg h1).2
    refine r_iconst X dX2_retire_5 (v := nI 0) (by decide) ?_
    refine r_putN X kc1 (j := 0) (hw.2 _ _ (by first | decide | (simp [cnt] <;> omega))) ev1 (by decide) (Nat.le_of_ble_eq_true rfl) fl_X2_75 rfl (by first | exact nzb _ | rfl) (by first | exact fzb _ | rfl) dX2_retire_6 es_1_0 ?_
    refine r_aload_n X dX2_retire_9 (i := 0) rfl rfl ?_
    refine r_dup X dX2_retire_10 rfl ?_
    refine r_get X kc2 (j := 3) (hw.2 _ _ (by first | decide | (simp [cnt] <;> omega))) ev2 (by decide) rfl fl_X2_55 dX2_retire_11 ?_
    refine r_iconst X dX2_retire_14 (v := nI 1) (by decide) ?_
    refine r_isub X dX2_retire_15 ?_
    refine r_put X kc2 (j := 3) (hw.2 _ _ (by first | decide | (simp [cnt] <;> omega))) ev2 (by decide) (Nat.le_of_ble_eq_true rfl) fl_X2_55 rfl rfl rfl dX2_retire_16 es_2_3 ?_
    refine r_aload_n X dX2_retire_19 (i := 0) rfl rfl ?_
    refine r_get X kc2 (j := 3) (hw.2 _ _ (by first | decide | (simp [cnt] <;> omega))) ev2 (by decide) rfl fl_X2_55 dX2_retire_20 ?_
    refine r_iret X dX2_retire_23 (by first | decide | (simp only [rmv]; omega)) (by first | decide | (simp only [rmv]; omega)) ?_
    first | with_reducible rfl | (simp [oRetire, ms_o, ms_s, h1]; done) | contradiction | with_reducible assumption
  · refine r_out X (by first | decide | (simp only [rmv]; omega)) (by first | decide | (simp only [rmv]; omega)) ?_
    simp [oRetire, ms_o, ms_s, h1]

set_option maxHeartbeats 4000000 in
set_option maxRecDepth 100000 in
theorem c_X2_moveTo {l : Launch} {w : Wo} {M : Mem} {G : Lng} {x d9 u9 : Int32} (hnt : l.stackTraces = false) (hw : WK w)  : CT l yX2_moveTo [Cond.code yX2_moveTo cX2_moveTo 6 (some .int)] 7 4 24 w [.ref (w.1 (2, 0)), .int x, .int d9, .int u9] M G (oMoveTo M G x d9 u9) := by
  refine CT_of hnt hw.1 mw_X2_moveTo (by simp [Value.category]) (Nat.le_of_ble_eq_true rfl) (fun p e s m args below meth c X => ?_)
  refine r_aload_n X dX2_moveTo_0 (i := 0) rfl rfl ?_
  refine r_iload_n X dX2_moveTo_1 (i := 1) rfl rfl ?_
  refine r_callV X (c_X2_installAt hnt hw ) mw_X2_installAt kc2 mi_X2_installAt (hw.2 _ _ (by first | decide | (simp [cnt] <;> omega))) ev2 ml_X2_71 rfl rfl (Nat.le_of_ble_eq_true rfl) (by first | decide | (simp only [rmv]; omega)) (by first | decide | (simp only [rmv]; omega)) (by first | decide | (simp only [rmv]; omega)) (by first | decide | (simp only [rmv]; omega)) dX2_moveTo_2 (koi (fun h1 => ko1 ?_) (fun h1 => kox ?_))
  · have hx1 := (thr_Rg h1).1
    have hx2 := (thr_Rg h1).2
    refine r_astore X dX2_moveTo_5 (by decide) rfl ?_
    refine r_iload_n X dX2_moveTo_7 (i := 2) rfl rfl ?_
    refine r_callS X (c_X2_isHolder hnt hw ) mw_X2_isHolder mi_X2_isHolder ml_X2_41 rfl rfl (Nat.le_of_ble_eq_true rfl) (by first | decide | (simp only [rmv]; omega)) (by first | decide | (simp only [rmv]; omega)) (by first | decide | (simp only [rmv]; omega)) (by first | decide | (simp only [rmv]; omega)) dX2_moveTo_8 (ko1 ?_)
    first | with_reducible refine r_ifb_eq X dX2_moveTo_11 (tgt := 21) (by decide) (fun h2 => ?_) (fun h2 => ?_) | refine r_if_eq X dX2_moveTo_11 (tgt := 21) (by decide) (fun h2 => ?_) (fun h2 => ?_)
    · refine r_throwS X (cls := xIAE) (by decide +kernel) kl_48 ki_xIAE (sw_79) at_xIAE dX2_moveTo_21 dX2_moveTo_24 dX2_moveTo_25 dX2_moveTo_27 dX2_moveTo_30 (by first | decide | (simp only [rmv]; omega)) (by first | decide | (simp [Value.category, rmv] <;> omega)) (by first | decide | (simp only [rmv]; omega)) (by first | decide | (simp only [rmv]; omega)) (by first | decide | (simp only [rmv]; omega)) (by first | decide | (simp only [rmv]; omega)) ?_
      simp [oMoveTo, ms_o, ms_s, h1, h2]
    · refine r_iload_n X dX2_moveTo_14 (i := 3) rfl rfl ?_
      refine r_callS X (c_X2_isHolder hnt hw ) mw_X2_isHolder mi_X2_isHolder ml_X2_41 rfl rfl (Nat.le_of_ble_eq_true rfl) (by first | decide | (simp only [rmv]; omega)) (by first | decide | (simp only [rmv]; omega)) (by first | decide | (simp only [rmv]; omega)) (by first | decide | (simp only [rmv]; omega)) dX2_moveTo_15 (ko1 ?_)
      first | with_reducible refine r_ifb_ne X dX2_moveTo_18 (tgt := 31) (by decide) (fun h3 => ?_) (fun h3 => ?_) | refine r_if_ne X dX2_moveTo_18 (tgt := 31) (by decide) (fun h3 => ?_) (fun h3 => ?_)
      · refine r_aload X dX2_moveTo_31 rfl ?_
        refine r_getN X kc1 (j := 4) (hw.2 _ _ (by first | decide | (simp [cnt] <;> omega))) ev1 (by decide) rfl fl_X2_81 dX2_moveTo_33 ?_
        refine r_istore X dX2_moveTo_36 (by decide) rfl ?_
        refine r_aload X dX2_moveTo_38 rfl ?_
        refine r_iload_n X dX2_moveTo_40 (i := 2) rfl rfl ?_
        refine r_putN X kc1 (j := 4) (hw.2 _ _ (by first | decide | (simp [cnt] <;> omega))) ev1 (by decide) (Nat.le_of_ble_eq_true rfl) fl_X2_81 rfl rfl rfl dX2_moveTo_41 es_1_4 ?_
        refine r_aload X dX2_moveTo_44 rfl ?_
        refine r_iload_n X dX2_moveTo_46 (i := 3) rfl rfl ?_
        refine r_putN X kc1 (j := 5) (hw.2 _ _ (by first | decide | (simp [cnt] <;> omega))) ev1 (by decide) (Nat.le_of_ble_eq_true rfl) fl_X2_84 rfl rfl rfl dX2_moveTo_47 es_1_5 ?_
        refine r_iload X dX2_moveTo_50 rfl ?_
        refine r_iret X dX2_moveTo_52 (by first | decide | (simp only [rmv]; omega)) (by first | decide | (simp only [rmv]; omega)) ?_
        first | with_reducible rfl | (simp [oMoveTo, ms_o, ms_s, h1, h2, h3]; done) | contradiction | with_reducible assumption
      · refine r_throwS X (cls := xIAE) (by decide +kernel) kl_48 ki_xIAE (sw_79) at_xIAE dX2_moveTo_21 dX2_moveTo_24 dX2_moveTo_25 dX2_moveTo_27 dX2_moveTo_30 (by first | decide | (simp only [rmv]; omega)) (by first | decide | (simp [Value.category, rmv] <;> omega)) (by first | decide | (simp only [rmv]; omega)) (by first | decide | (simp only [rmv]; omega)) (by first | decide | (simp only [rmv]; omega)) (by first | decide | (simp only [rmv]; omega)) ?_
        simp [oMoveTo, ms_o, ms_s, h1, h2, h3]
  · refine r_out X (by first | decide | (simp only [rmv]; omega)) (by first | decide | (simp only [rmv]; omega)) ?_
    simp [oMoveTo, ms_o, ms_s, h1]

set_option maxHeartbeats 4000000 in
set_option maxRecDepth 100000 in
theorem c_X2_setVersion {l : Launch} {w : Wo} {M : Mem} {G : Lng} {x d9 u9 : Int32} (hnt : l.stackTraces = false) (hw : WK w)  : CT l yX2_setVersion [Cond.code yX2_setVersion cX2_setVersion 6 (some .int)] 7 4 24 w [.ref (w.1 (2, 0)), .int x, .int d9, .int u9] M G (oSetVersion M G x d9 u9) := by
  refine CT_of hnt hw.1 mw_X2_setVersion (by simp [Value.category]) (Nat.le_of_ble_eq_true rfl) (fun p e s m args below meth c X => ?_)
  refine r_aload_n X dX2_setVersion_0 (i := 0) rfl rfl ?_
  refine r_iload_n X dX2_setVersion_1 (i := 1) rfl rfl ?_
  refine r_callV X (c_X2_installAt hnt hw ) mw_X2_installAt kc2 mi_X2_installAt (hw.2 _ _ (by first | decide | (simp [cnt] <;> omega))) ev2 ml_X2_71 rfl rfl (Nat.le_of_ble_eq_true rfl) (by first | decide | (simp only [rmv]; omega)) (by first | decide | (simp only [rmv]; omega)) (by first | decide | (simp only [rmv]; omega)) (by first | decide | (simp only [rmv]; omega)) dX2_setVersion_2 (koi (fun h1 => ko1 ?_) (fun h1 => kox ?_))
  · have hx1 := (thr_Rg h1).1
    have hx2 := (thr_Rg h1).2
    refine r_astore X dX2_setVersion_5 (by decide) rfl ?_
    refine r_iload_n X dX2_setVersion_7 (i := 2) rfl rfl ?_
    refine r_iload_n X dX2_setVersion_8 (i := 3) rfl rfl ?_
    refine r_callS X (c_X2_isRelease hnt hw ) mw_X2_isRelease mi_X2_isRelease ml_X2_37 rfl rfl (Nat.le_of_ble_eq_true rfl) (by first | decide | (simp only [rmv]; omega)) (by first | decide | (simp only [rmv]; omega)) (by first | decide | (simp only [rmv]; omega)) (by first | decide | (simp only [rmv]; omega)) dX2_setVersion_9 (ko1 ?_)
    first | with_reducible refine r_ifb_ne X dX2_setVersion_12 (tgt := 25) (by decide) (fun h2 => ?_) (fun h2 => ?_) | refine r_if_ne X dX2_setVersion_12 (tgt := 25) (by decide) (fun h2 => ?_) (fun h2 => ?_)
    · refine r_aload X dX2_setVersion_25 rfl ?_
      refine r_getN X kc1 (j := 2) (hw.2 _ _ (by first | decide | (simp [cnt] <;> omega))) ev1 (by decide) rfl fl_X2_89 dX2_setVersion_27 ?_
      refine r_istore X dX2_setVersion_30 (by decide) rfl ?_
      refine r_aload X dX2_setVersion_32 rfl ?_
      refine r_iload_n X dX2_setVersion_34 (i := 2) rfl rfl ?_
      refine r_putN X kc1 (j := 2) (hw.2 _ _ (by first | decide | (simp [cnt] <;> omega))) ev1 (by decide) (Nat.le_of_ble_eq_true rfl) fl_X2_89 rfl rfl rfl dX2_setVersion_35 es_1_2 ?_
      refine r_aload X dX2_setVersion_38 rfl ?_
      refine r_iload_n X dX2_setVersion_40 (i := 3) rfl rfl ?_
      refine r_putN X kc1 (j := 3) (hw.2 _ _ (by first | decide | (simp [cnt] <;> omega))) ev1 (by decide) (Nat.le_of_ble_eq_true rfl) fl_X2_92 rfl rfl rfl dX2_setVersion_41 es_1_3 ?_
      refine r_iload X dX2_setVersion_44 rfl ?_
      refine r_iret X dX2_setVersion_46 (by first | decide | (simp only [rmv]; omega)) (by first | decide | (simp only [rmv]; omega)) ?_
      first | with_reducible rfl | (simp [oSetVersion, ms_o, ms_s, h1, h2]; done) | contradiction | with_reducible assumption
    · refine r_throwS X (cls := xIAE) (by decide +kernel) kl_48 ki_xIAE (sw_87) at_xIAE dX2_setVersion_15 dX2_setVersion_18 dX2_setVersion_19 dX2_setVersion_21 dX2_setVersion_24 (by first | decide | (simp only [rmv]; omega)) (by first | decide | (simp [Value.category, rmv] <;> omega)) (by first | decide | (simp only [rmv]; omega)) (by first | decide | (simp only [rmv]; omega)) (by first | decide | (simp only [rmv]; omega)) (by first | decide | (simp only [rmv]; omega)) ?_
      simp [oSetVersion, ms_o, ms_s, h1, h2]
  · refine r_out X (by first | decide | (simp only [rmv]; omega)) (by first | decide | (simp only [rmv]; omega)) ?_
    simp [oSetVersion, ms_o, ms_s, h1]

set_option maxHeartbeats 4000000 in
set_option maxRecDepth 100000 in
theorem c_X2_setPool {l : Launch} {w : Wo} {M : Mem} {G : Lng} {x d9 : Int32} (hnt : l.stackTraces = false) (hw : WK w)  : CT l yX2_setPool [Cond.code yX2_setPool cX2_setPool 5 (some .int)] 7 4 24 w [.ref (w.1 (2, 0)), .int x, .int d9] M G (oSetPool M G x d9) := by
  refine CT_of hnt hw.1 mw_X2_setPool (by simp [Value.category]) (Nat.le_of_ble_eq_true rfl) (fun p e s m args below meth c X => ?_)
  refine r_aload_n X dX2_setPool_0 (i := 0) rfl rfl ?_
  refine r_iload_n X dX2_setPool_1 (i := 1) rfl rfl ?_
  refine r_callV X (c_X2_installAt hnt hw ) mw_X2_installAt kc2 mi_X2_installAt (hw.2 _ _ (by first | decide | (simp [cnt] <;> omega))) ev2 ml_X2_71 rfl rfl (Nat.le_of_ble_eq_true rfl) (by first | decide | (simp only [rmv]; omega)) (by first | decide | (simp only [rmv]; omega)) (by first | decide | (simp only [rmv]; omega)) (by first | decide | (simp only [rmv]; omega)) dX2_setPool_2 (koi (fun h1 => ko1 ?_) (fun h1 => kox ?_))
  · have hx1 := (thr_Rg h1).1
    have hx2 := (thr_Rg h1).2
    refine r_astore_n X dX2_setPool_5 (i := 3) rfl (by decide) rfl ?_
    refine r_iload_n X dX2_setPool_6 (i := 2) rfl rfl ?_
    refine r_callS X (c_X2_isPool hnt hw ) mw_X2_isPool mi_X2_isPool ml_X2_45 rfl rfl (Nat.le_of_ble_eq_true rfl) (by first | decide | (simp only [rmv]; omega)) (by first | decide | (simp only [rmv]; omega)) (by first | decide | (simp only [rmv]; omega)) (by first | decide | (simp only [rmv]; omega)) dX2_setPool_7 (ko1 ?_)
    first | with_reducible refine r_ifb_ne X dX2_setPool_10 (tgt := 23) (by decide) (fun h2 => ?_) (fun h2 => ?_) | refine r_if_ne X dX2_setPool_10 (tgt := 23) (by decide) (fun h2 => ?_) (fun h2 => ?_)
    · refine r_aload_n X dX2_setPool_23 (i := 3) rfl rfl ?_
      refine r_getN X kc1 (j := 7) (hw.2 _ _ (by first | decide | (simp [cnt] <;> omega))) ev1 (by decide) rfl fl_X2_97 dX2_setPool_24 ?_
      refine r_istore X dX2_setPool_27 (by decide) rfl ?_
      refine r_aload_n X dX2_setPool_29 (i := 3) rfl rfl ?_
      refine r_iload_n X dX2_setPool_30 (i := 2) rfl rfl ?_
      refine r_putN X kc1 (j := 7) (hw.2 _ _ (by first | decide | (simp [cnt] <;> omega))) ev1 (by decide) (Nat.le_of_ble_eq_true rfl) fl_X2_97 rfl rfl rfl dX2_setPool_31 es_1_7 ?_
      refine r_iload X dX2_setPool_34 rfl ?_
      refine r_iret X dX2_setPool_36 (by first | decide | (simp only [rmv]; omega)) (by first | decide | (simp only [rmv]; omega)) ?_
      first | with_reducible rfl | (simp [oSetPool, ms_o, ms_s, h1, h2]; done) | contradiction | with_reducible assumption
    · refine r_throwS X (cls := xIAE) (by decide +kernel) kl_48 ki_xIAE (sw_95) at_xIAE dX2_setPool_13 dX2_setPool_16 dX2_setPool_17 dX2_setPool_19 dX2_setPool_22 (by first | decide | (simp only [rmv]; omega)) (by first | decide | (simp [Value.category, rmv] <;> omega)) (by first | decide | (simp only [rmv]; omega)) (by first | decide | (simp only [rmv]; omega)) (by first | decide | (simp only [rmv]; omega)) (by first | decide | (simp only [rmv]; omega)) ?_
      simp [oSetPool, ms_o, ms_s, h1, h2]
  · refine r_out X (by first | decide | (simp only [rmv]; omega)) (by first | decide | (simp only [rmv]; omega)) ?_
    simp [oSetPool, ms_o, ms_s, h1]

set_option maxHeartbeats 4000000 in
set_option maxRecDepth 100000 in
theorem c_X2_installs {l : Launch} {w : Wo} {M : Mem} {G : Lng}  (hnt : l.stackTraces = false) (hw : WK w)  : CT l yX2_installs [Cond.code yX2_installs cX2_installs 1 (some .int)] 1 0 0 w [.ref (w.1 (2, 0))] M G (okO (some (.int (M 2 0 3))) M G) := by
  refine CT_of hnt hw.1 mw_X2_installs (by simp [Value.category]) (Nat.le_of_ble_eq_true rfl) (fun p e s m args below meth c X => ?_)
  refine r_aload_n X dX2_installs_0 (i := 0) rfl rfl ?_
  refine r_get X kc2 (j := 3) (hw.2 _ _ (by first | decide | (simp [cnt] <;> omega))) ev2 (by decide) rfl fl_X2_55 dX2_installs_1 ?_
  refine r_iret X dX2_installs_4 (by first | decide | (simp only [rmv]; omega)) (by first | decide | (simp only [rmv]; omega)) ?_
  first | with_reducible rfl | (simp []; done) | contradiction | with_reducible assumption

set_option maxHeartbeats 4000000 in
set_option maxRecDepth 100000 in
theorem c_X2_entitle {l : Launch} {w : Wo} {M : Mem} {G : Lng} {p9 v9 d9 m9 u9 q9 : Int32} (hnt : l.stackTraces = false) (hw : WK w) (hD : DI M) (hm1 : narrow .char (.int m9) = .int m9) (hm2 : fits .char (.int m9) = true) : CT l yX2_entitle [Cond.code yX2_entitle cX2_entitle 8 (some .int)] 7 4 24 w [.ref (w.1 (2, 0)), .int p9, .int v9, .int d9, .int m9, .int u9, .int q9] M G (oEntitle M G p9 v9 d9 m9 u9 q9) := by
  refine CT_of hnt hw.1 mw_X2_entitle (by simp [Value.category]) (Nat.le_of_ble_eq_true rfl) (fun p e s m args below meth c X => ?_)
  refine r_iload_n X dX2_entitle_0 (i := 1) rfl rfl ?_
  refine r_iconst X dX2_entitle_1 (v := nI 1) (by decide) ?_
  refine r_bipush X dX2_entitle_2 (v := nI 15) (by decide) ?_
  refine r_callS X (c_X2_isBetween hnt hw ) mw_X2_isBetween mi_X2_isBetween ml_X2_33 rfl rfl (Nat.le_of_ble_eq_true rfl) (by first | decide | (simp only [rmv]; omega)) (by first | decide | (simp only [rmv]; omega)) (by first | decide | (simp only [rmv]; omega)) (by first | decide | (simp only [rmv]; omega)) dX2_entitle_4 (ko1 ?_)
  first | with_reducible refine r_ifb_eq X dX2_entitle_7 (tgt := 51) (by decide) (fun h1 => ?_) (fun h1 => ?_) | refine r_if_eq X dX2_entitle_7 (tgt := 51) (by decide) (fun h1 => ?_) (fun h1 => ?_)
  · refine r_throwS X (cls := xIAE) (by decide +kernel) kl_48 ki_xIAE (sw_104) at_xIAE dX2_entitle_51 dX2_entitle_54 dX2_entitle_55 dX2_entitle_57 dX2_entitle_60 (by first | decide | (simp only [rmv]; omega)) (by first | decide | (simp [Value.category, rmv] <;> omega)) (by first | decide | (simp only [rmv]; omega)) (by first | decide | (simp only [rmv]; omega)) (by first | decide | (simp only [rmv]; omega)) (by first | decide | (simp only [rmv]; omega)) ?_
    simp [oEntitle, fitE, fillE, ms_o, ms_s, h1]
  · refine r_iload_n X dX2_entitle_10 (i := 2) rfl rfl ?_
    refine r_iload_n X dX2_entitle_11 (i := 3) rfl rfl ?_
    refine r_callS X (c_X2_isRelease hnt hw ) mw_X2_isRelease mi_X2_isRelease ml_X2_37 rfl rfl (Nat.le_of_ble_eq_true rfl) (by first | decide | (simp only [rmv]; omega)) (by first | decide | (simp only [rmv]; omega)) (by first | decide | (simp only [rmv]; omega)) (by first | decide | (simp only [rmv]; omega)) dX2_entitle_12 (ko1 ?_)
    first | with_reducible refine r_ifb_eq X dX2_entitle_15 (tgt := 51) (by decide) (fun h2 => ?_) (fun h2 => ?_) | refine r_if_eq X dX2_entitle_15 (tgt := 51) (by decide) (fun h2 => ?_) (fun h2 => ?_)
    · refine r_throwS X (cls := xIAE) (by decide +kernel) kl_48 ki_xIAE (sw_104) at_xIAE dX2_entitle_51 dX2_entitle_54 dX2_entitle_55 dX2_entitle_57 dX2_entitle_60 (by first | decide | (simp only [rmv]; omega)) (by first | decide | (simp [Value.category, rmv] <;> omega)) (by first | decide | (simp only [rmv]; omega)) (by first | decide | (simp only [rmv]; omega)) (by first | decide | (simp only [rmv]; omega)) (by first | decide | (simp only [rmv]; omega)) ?_
      simp [oEntitle, fitE, fillE, ms_o, ms_s, h1, h2]
    · refine r_iload X dX2_entitle_18 rfl ?_
      refine r_callS X (c_X2_isMetric hnt hw ) mw_X2_isMetric mi_X2_isMetric ml_X2_100 rfl rfl (Nat.le_of_ble_eq_true rfl) (by first | decide | (simp only [rmv]; omega)) (by first | decide | (simp only [rmv]; omega)) (by first | decide | (simp only [rmv]; omega)) (by first | decide | (simp only [rmv]; omega)) dX2_entitle_20 (ko1 ?_)
      first | with_reducible refine r_ifb_eq X dX2_entitle_23 (tgt := 51) (by decide) (fun h3 => ?_) (fun h3 => ?_) | refine r_if_eq X dX2_entitle_23 (tgt := 51) (by decide) (fun h3 => ?_) (fun h3 => ?_)
      · refine r_throwS X (cls := xIAE) (by decide +kernel) kl_48 ki_xIAE (sw_104) at_xIAE dX2_entitle_51 dX2_entitle_54 dX2_entitle_55 dX2_entitle_57 dX2_entitle_60 (by first | decide | (simp only [rmv]; omega)) (by first | decide | (simp [Value.category, rmv] <;> omega)) (by first | decide | (simp only [rmv]; omega)) (by first | decide | (simp only [rmv]; omega)) (by first | decide | (simp only [rmv]; omega)) (by first | decide | (simp only [rmv]; omega)) ?_
        simp [oEntitle, fitE, fillE, ms_o, ms_s, h1, h2, h3]
      · refine r_iload X dX2_entitle_26 rfl ?_
        refine r_iconst X dX2_entitle_28 (v := nI 0) (by decide) ?_
        refine r_bipush X dX2_entitle_29 (v := nI 99) (by decide) ?_
        refine r_callS X (c_X2_isBetween hnt hw ) mw_X2_isBetween mi_X2_isBetween ml_X2_33 rfl rfl (Nat.le_of_ble_eq_true rfl) (by first | decide | (simp only [rmv]; omega)) (by first | decide | (simp only [rmv]; omega)) (by first | decide | (simp only [rmv]; omega)) (by first | decide | (simp only [rmv]; omega)) dX2_entitle_31 (ko1 ?_)
        first | with_reducible refine r_ifb_eq X dX2_entitle_34 (tgt := 51) (by decide) (fun h4 => ?_) (fun h4 => ?_) | refine r_if_eq X dX2_entitle_34 (tgt := 51) (by decide) (fun h4 => ?_) (fun h4 => ?_)
        · refine r_throwS X (cls := xIAE) (by decide +kernel) kl_48 ki_xIAE (sw_104) at_xIAE dX2_entitle_51 dX2_entitle_54 dX2_entitle_55 dX2_entitle_57 dX2_entitle_60 (by first | decide | (simp only [rmv]; omega)) (by first | decide | (simp [Value.category, rmv] <;> omega)) (by first | decide | (simp only [rmv]; omega)) (by first | decide | (simp only [rmv]; omega)) (by first | decide | (simp only [rmv]; omega)) (by first | decide | (simp only [rmv]; omega)) ?_
          simp [oEntitle, fitE, fillE, ms_o, ms_s, h1, h2, h3, h4]
        · refine r_iload X dX2_entitle_37 rfl ?_
          refine r_callS X (c_X2_isPool hnt hw ) mw_X2_isPool mi_X2_isPool ml_X2_45 rfl rfl (Nat.le_of_ble_eq_true rfl) (by first | decide | (simp only [rmv]; omega)) (by first | decide | (simp only [rmv]; omega)) (by first | decide | (simp only [rmv]; omega)) (by first | decide | (simp only [rmv]; omega)) dX2_entitle_39 (ko1 ?_)
          first | with_reducible refine r_ifb_ne X dX2_entitle_42 (tgt := 61) (by decide) (fun h5 => ?_) (fun h5 => ?_) | refine r_if_ne X dX2_entitle_42 (tgt := 61) (by decide) (fun h5 => ?_) (fun h5 => ?_)
          · refine r_aload_n X dX2_entitle_61 (i := 0) rfl rfl ?_
            refine r_get X kc2 (j := 4) (hw.2 _ _ (by first | decide | (simp [cnt] <;> omega))) ev2 (by decide) rfl fl_X2_106 dX2_entitle_62 ?_
            refine r_iconst X dX2_entitle_65 (v := nI 5) (by decide) ?_
            first | with_reducible refine r_icmpn_lt X dX2_entitle_66 (tgt := 79) (by decide) (by omega) (by omega) (fun h6 => ?_) (fun h6 => ?_) | refine r_icmp_lt X dX2_entitle_66 (tgt := 79) (by decide) (fun h6 => ?_) (fun h6 => ?_)
            · have hk := Rg_lt hD.2.2.1 (by decide) (by decide) h6
              have hk1 := hk.1
              have hk2 := hk.2
              refine r_aload_n X dX2_entitle_79 (i := 0) rfl rfl ?_
              refine r_get X kc2 (j := 4) (hw.2 _ _ (by first | decide | (simp [cnt] <;> omega))) ev2 (by decide) rfl fl_X2_106 dX2_entitle_80 ?_
              refine r_istore X dX2_entitle_83 (by decide) rfl ?_
              refine r_aload_n X dX2_entitle_85 (i := 0) rfl rfl ?_
              refine r_get X kc2 (j := 1) (hw.2 _ _ (by first | decide | (simp [cnt] <;> omega))) ev2 (by decide) rfl fl_X2_18 dX2_entitle_86 ?_
              refine r_iload X dX2_entitle_89 rfl ?_
              first | refine r_aald X (t0 := 6) (hw.2 _ _ (by first | decide | (simp [cnt] <;> omega))) rfl ev4 (by first | with_reducible rfl | with_reducible assumption | (rw [pk_mul, nI_add])) (by first | with_reducible assumption | omega) (by decide) rfl dX2_entitle_91 ?_ | refine r_aald X (t0 := 5) (hw.2 _ _ (by first | decide | (simp [cnt] <;> omega))) rfl ev5 (by first | with_reducible rfl | with_reducible assumption | (rw [pk_mul, nI_add])) (by first | with_reducible assumption | omega) (by decide) rfl dX2_entitle_91 ?_
              refine r_iload_n X dX2_entitle_92 (i := 1) rfl rfl ?_
              refine r_iload_n X dX2_entitle_93 (i := 2) rfl rfl ?_
              refine r_iload_n X dX2_entitle_94 (i := 3) rfl rfl ?_
              refine r_iload X dX2_entitle_95 rfl ?_
              refine r_iload X dX2_entitle_97 rfl ?_
              refine r_iload X dX2_entitle_99 rfl ?_
              refine r_callVN X (c_X0_fill hnt hw (by first | with_reducible assumption | with_reducible rfl | omega | (with_reducible (repeat (first | assumption | refine DI_chg ?_ | refine DI_clr ?_ | refine DI_scr rfl ?_)); done)) (by first | with_reducible assumption | with_reducible rfl | omega | (with_reducible (repeat (first | assumption | refine DI_chg ?_ | refine DI_clr ?_ | refine DI_scr rfl ?_)); done)) (by first | with_reducible assumption | with_reducible rfl | omega | (with_reducible (repeat (first | assumption | refine DI_chg ?_ | refine DI_clr ?_ | refine DI_scr rfl ?_)); done))) mw_X0_fill kc0 mi_X0_fill (hw.2 _ _ (by first | decide | (simp [cnt] <;> omega))) ev0 ml_X2_111 rfl rfl (Nat.le_of_ble_eq_true rfl) (by first | decide | (simp only [rmv]; omega)) (by first | decide | (simp only [rmv]; omega)) (by first | decide | (simp only [rmv]; omega)) (by first | decide | (simp only [rmv]; omega)) dX2_entitle_101 (ko0 ?_)
              refine r_aload_n X dX2_entitle_104 (i := 0) rfl rfl ?_
              refine r_dup X dX2_entitle_105 rfl ?_
              refine r_get X kc2 (j := 4) (hw.2 _ _ (by first | decide | (simp [cnt] <;> omega))) ev2 (by decide) rfl fl_X2_106 dX2_entitle_106 ?_
              refine r_iconst X dX2_entitle_109 (v := nI 1) (by decide) ?_
              refine r_iadd X dX2_entitle_110 ?_
              refine r_put X kc2 (j := 4) (hw.2 _ _ (by first | decide | (simp [cnt] <;> omega))) ev2 (by decide) (Nat.le_of_ble_eq_true rfl) fl_X2_106 rfl rfl rfl dX2_entitle_111 es_2_4 ?_
              refine r_iload X dX2_entitle_114 rfl ?_
              refine r_iret X dX2_entitle_116 (by first | decide | (simp only [rmv]; omega)) (by first | decide | (simp only [rmv]; omega)) ?_
              first | with_reducible rfl | (simp [oEntitle, fitE, fillE, ms_o, ms_s, h1, h2, h3, h4, h5, h6]; done) | contradiction | with_reducible assumption
            · refine r_throwS X (cls := xISE) (by decide +kernel) kl_62 ki_xISE (sw_109) at_xISE dX2_entitle_69 dX2_entitle_72 dX2_entitle_73 dX2_entitle_75 dX2_entitle_78 (by first | decide | (simp only [rmv]; omega)) (by first | decide | (simp [Value.category, rmv] <;> omega)) (by first | decide | (simp only [rmv]; omega)) (by first | decide | (simp only [rmv]; omega)) (by first | decide | (simp only [rmv]; omega)) (by first | decide | (simp only [rmv]; omega)) ?_
              simp [oEntitle, fitE, fillE, ms_o, ms_s, h1, h2, h3, h4, h5, h6]
          · refine r_iload X dX2_entitle_45 rfl ?_
            refine r_iconst X dX2_entitle_47 (v := -1) (by decide) ?_
            first | with_reducible refine r_icmpn_eq X dX2_entitle_48 (tgt := 61) (by decide) (by omega) (by omega) (fun h7 => ?_) (fun h7 => ?_) | refine r_icmp_eq X dX2_entitle_48 (tgt := 61) (by decide) (fun h7 => ?_) (fun h7 => ?_)
            · refine r_aload_n X dX2_entitle_61 (i := 0) rfl rfl ?_
              refine r_get X kc2 (j := 4) (hw.2 _ _ (by first | decide | (simp [cnt] <;> omega))) ev2 (by decide) rfl fl_X2_106 dX2_entitle_62 ?_
              refine r_iconst X dX2_entitle_65 (v := nI 5) (by decide) ?_
              first | with_reducible refine r_icmpn_lt X dX2_entitle_66 (tgt := 79) (by decide) (by omega) (by omega) (fun h8 => ?_) (fun h8 => ?_) | refine r_icmp_lt X dX2_entitle_66 (tgt := 79) (by decide) (fun h8 => ?_) (fun h8 => ?_)
              · have hk := Rg_lt hD.2.2.1 (by decide) (by decide) h8
                have hk1 := hk.1
                have hk2 := hk.2
                refine r_aload_n X dX2_entitle_79 (i := 0) rfl rfl ?_
                refine r_get X kc2 (j := 4) (hw.2 _ _ (by first | decide | (simp [cnt] <;> omega))) ev2 (by decide) rfl fl_X2_106 dX2_entitle_80 ?_
                refine r_istore X dX2_entitle_83 (by decide) rfl ?_
                refine r_aload_n X dX2_entitle_85 (i := 0) rfl rfl ?_
                refine r_get X kc2 (j := 1) (hw.2 _ _ (by first | decide | (simp [cnt] <;> omega))) ev2 (by decide) rfl fl_X2_18 dX2_entitle_86 ?_
                refine r_iload X dX2_entitle_89 rfl ?_
                first | refine r_aald X (t0 := 6) (hw.2 _ _ (by first | decide | (simp [cnt] <;> omega))) rfl ev4 (by first | with_reducible rfl | with_reducible assumption | (rw [pk_mul, nI_add])) (by first | with_reducible assumption | omega) (by decide) rfl dX2_entitle_91 ?_ | refine r_aald X (t0 := 5) (hw.2 _ _ (by first | decide | (simp [cnt] <;> omega))) rfl ev5 (by first | with_reducible rfl | with_reducible assumption | (rw [pk_mul, nI_add])) (by first | with_reducible assumption | omega) (by decide) rfl dX2_entitle_91 ?_
                refine r_iload_n X dX2_entitle_92 (i := 1) rfl rfl ?_
                refine r_iload_n X dX2_entitle_93 (i := 2) rfl rfl ?_
                refine r_iload_n X dX2_entitle_94 (i := 3) rfl rfl ?_
                refine r_iload X dX2_entitle_95 rfl ?_
                refine r_iload X dX2_entitle_97 rfl ?_
                refine r_iload X dX2_entitle_99 rfl ?_
                refine r_callVN X (c_X0_fill hnt hw (by first | with_reducible assumption | with_reducible rfl | omega | (with_reducible (repeat (first | assumption | refine DI_chg ?_ | refine DI_clr ?_ | refine DI_scr rfl ?_)); done)) (by first | with_reducible assumption | with_reducible rfl | omega | (with_reducible (repeat (first | assumption | refine DI_chg ?_ | refine DI_clr ?_ | refine DI_scr rfl ?_)); done)) (by first | with_reducible assumption | with_reducible rfl | omega | (with_reducible (repeat (first | assumption | refine DI_chg ?_ | refine DI_clr ?_ | refine DI_scr rfl ?_)); done))) mw_X0_fill kc0 mi_X0_fill (hw.2 _ _ (by first | decide | (simp [cnt] <;> omega))) ev0 ml_X2_111 rfl rfl (Nat.le_of_ble_eq_true rfl) (by first | decide | (simp only [rmv]; omega)) (by first | decide | (simp only [rmv]; omega)) (by first | decide | (simp only [rmv]; omega)) (by first | decide | (simp only [rmv]; omega)) dX2_entitle_101 (ko0 ?_)
                refine r_aload_n X dX2_entitle_104 (i := 0) rfl rfl ?_
                refine r_dup X dX2_entitle_105 rfl ?_
                refine r_get X kc2 (j := 4) (hw.2 _ _ (by first | decide | (simp [cnt] <;> omega))) ev2 (by decide) rfl fl_X2_106 dX2_entitle_106 ?_
                refine r_iconst X dX2_entitle_109 (v := nI 1) (by decide) ?_
                refine r_iadd X dX2_entitle_110 ?_
                refine r_put X kc2 (j := 4) (hw.2 _ _ (by first | decide | (simp [cnt] <;> omega))) ev2 (by decide) (Nat.le_of_ble_eq_true rfl) fl_X2_106 rfl rfl rfl dX2_entitle_111 es_2_4 ?_
                refine r_iload X dX2_entitle_114 rfl ?_
                refine r_iret X dX2_entitle_116 (by first | decide | (simp only [rmv]; omega)) (by first | decide | (simp only [rmv]; omega)) ?_
                first | with_reducible rfl | (simp [oEntitle, fitE, fillE, ms_o, ms_s, h1, h2, h3, h4, h5, h7, h8]; done) | contradiction | with_reducible assumption
              · refine r_throwS X (cls := xISE) (by decide +kernel) kl_62 ki_xISE (sw_109) at_xISE dX2_entitle_69 dX2_entitle_72 dX2_entitle_73 dX2_entitle_75 dX2_entitle_78 (by first | decide | (simp only [rmv]; omega)) (by first | decide | (simp [Value.category, rmv] <;> omega)) (by first | decide | (simp only [rmv]; omega)) (by first | decide | (simp only [rmv]; omega)) (by first | decide | (simp only [rmv]; omega)) (by first | decide | (simp only [rmv]; omega)) ?_
                simp [oEntitle, fitE, fillE, ms_o, ms_s, h1, h2, h3, h4, h5, h7, h8]
            · refine r_throwS X (cls := xIAE) (by decide +kernel) kl_48 ki_xIAE (sw_104) at_xIAE dX2_entitle_51 dX2_entitle_54 dX2_entitle_55 dX2_entitle_57 dX2_entitle_60 (by first | decide | (simp only [rmv]; omega)) (by first | decide | (simp [Value.category, rmv] <;> omega)) (by first | decide | (simp only [rmv]; omega)) (by first | decide | (simp only [rmv]; omega)) (by first | decide | (simp only [rmv]; omega)) (by first | decide | (simp only [rmv]; omega)) ?_
              simp [oEntitle, fitE, fillE, ms_o, ms_s, h1, h2, h3, h4, h5, h7]

set_option maxHeartbeats 4000000 in
set_option maxRecDepth 100000 in
theorem c_X2_setRights {l : Launch} {w : Wo} {M : Mem} {G : Lng} {x : Int32} {a9 b9 c9 : Bool} (hnt : l.stackTraces = false) (hw : WK w) (hD : DI M) : CT l yX2_setRights [Cond.code yX2_setRights cX2_setRights 7 (some .int)] 7 4 24 w [.ref (w.1 (2, 0)), .int x, .int (bi a9), .int (bi b9), .int (bi c9)] M G (oSetRights M G x a9 b9 c9) := by
  refine CT_of hnt hw.1 mw_X2_setRights (by simp [Value.category]) (Nat.le_of_ble_eq_true rfl) (fun p e s m args below meth c X => ?_)
  refine r_aload_n X dX2_setRights_0 (i := 0) rfl rfl ?_
  refine r_iload_n X dX2_setRights_1 (i := 1) rfl rfl ?_
  refine r_callV X (c_X2_entitlementAt hnt hw (by first | with_reducible assumption | with_reducible rfl | omega | (with_reducible (repeat (first | assumption | refine DI_chg ?_ | refine DI_clr ?_ | refine DI_scr rfl ?_)); done))) mw_X2_entitlementAt kc2 mi_X2_entitlementAt (hw.2 _ _ (by first | decide | (simp [cnt] <;> omega))) ev2 ml_X2_114 rfl rfl (Nat.le_of_ble_eq_true rfl) (by first | decide | (simp only [rmv]; omega)) (by first | decide | (simp only [rmv]; omega)) (by first | decide | (simp only [rmv]; omega)) (by first | decide | (simp only [rmv]; omega)) dX2_setRights_2 (koi (fun h1 => ko1 ?_) (fun h1 => kox ?_))
  · have hy1 := (eth_Rg hD h1).1
    have hy2 := (eth_Rg hD h1).2
    refine r_astore X dX2_setRights_5 (by decide) rfl ?_
    refine r_aload X dX2_setRights_7 rfl ?_
    refine r_callVN X (c_X0_countRights hnt hw (by first | with_reducible assumption | with_reducible rfl | omega | (with_reducible (repeat (first | assumption | refine DI_chg ?_ | refine DI_clr ?_ | refine DI_scr rfl ?_)); done))) mw_X0_countRights kc0 mi_X0_countRights (hw.2 _ _ (by first | decide | (simp [cnt] <;> omega))) ev0 ml_X2_118 rfl rfl (Nat.le_of_ble_eq_true rfl) (by first | decide | (simp only [rmv]; omega)) (by first | decide | (simp only [rmv]; omega)) (by first | decide | (simp only [rmv]; omega)) (by first | decide | (simp only [rmv]; omega)) dX2_setRights_9 (ko1 ?_)
    refine r_istore X dX2_setRights_12 (by decide) rfl ?_
    refine r_aload X dX2_setRights_14 rfl ?_
    refine r_iload_n X dX2_setRights_16 (i := 2) rfl rfl ?_
    refine r_putN X kc0 (j := 8) (hw.2 _ _ (by first | decide | (simp [cnt] <;> omega))) ev0 (by decide) (Nat.le_of_ble_eq_true rfl) fl_X2_122 rfl (by first | exact nzb _ | rfl) (by first | exact fzb _ | rfl) dX2_setRights_17 es_0_8 ?_
    refine r_aload X dX2_setRights_20 rfl ?_
    refine r_iload_n X dX2_setRights_22 (i := 3) rfl rfl ?_
    refine r_putN X kc0 (j := 9) (hw.2 _ _ (by first | decide | (simp [cnt] <;> omega))) ev0 (by decide) (Nat.le_of_ble_eq_true rfl) fl_X2_125 rfl (by first | exact nzb _ | rfl) (by first | exact fzb _ | rfl) dX2_setRights_23 es_0_9 ?_
    refine r_aload X dX2_setRights_26 rfl ?_
    refine r_iload X dX2_setRights_28 rfl ?_
    refine r_putN X kc0 (j := 10) (hw.2 _ _ (by first | decide | (simp [cnt] <;> omega))) ev0 (by decide) (Nat.le_of_ble_eq_true rfl) fl_X2_128 rfl (by first | exact nzb _ | rfl) (by first | exact fzb _ | rfl) dX2_setRights_30 es_0_10 ?_
    refine r_iload X dX2_setRights_33 rfl ?_
    refine r_iret X dX2_setRights_35 (by first | decide | (simp only [rmv]; omega)) (by first | decide | (simp only [rmv]; omega)) ?_
    first | with_reducible rfl | (simp [oSetRights, cr, ms_o, ms_s, h1]; done) | contradiction | with_reducible assumption
  · refine r_out X (by first | decide | (simp only [rmv]; omega)) (by first | decide | (simp only [rmv]; omega)) ?_
    simp [oSetRights, cr, ms_o, ms_s, h1]

set_option maxHeartbeats 4000000 in
set_option maxRecDepth 100000 in
theorem c_X2_setMinimum {l : Launch} {w : Wo} {M : Mem} {G : Lng} {x d9 : Int32} (hnt : l.stackTraces = false) (hw : WK w) (hD : DI M) : CT l yX2_setMinimum [Cond.code yX2_setMinimum cX2_setMinimum 5 (some .int)] 7 4 24 w [.ref (w.1 (2, 0)), .int x, .int d9] M G (oSetMinimum M G x d9) := by
  refine CT_of hnt hw.1 mw_X2_setMinimum (by simp [Value.category]) (Nat.le_of_ble_eq_true rfl) (fun p e s m args below meth c X => ?_)
  refine r_aload_n X dX2_setMinimum_0 (i := 0) rfl rfl ?_
  refine r_iload_n X dX2_setMinimum_1 (i := 1) rfl rfl ?_
  refine r_callV X (c_X2_entitlementAt hnt hw (by first | with_reducible assumption | with_reducible rfl | omega | (with_reducible (repeat (first | assumption | refine DI_chg ?_ | refine DI_clr ?_ | refine DI_scr rfl ?_)); done))) mw_X2_entitlementAt kc2 mi_X2_entitlementAt (hw.2 _ _ (by first | decide | (simp [cnt] <;> omega))) ev2 ml_X2_114 rfl rfl (Nat.le_of_ble_eq_true rfl) (by first | decide | (simp only [rmv]; omega)) (by first | decide | (simp only [rmv]; omega)) (by first | decide | (simp only [rmv]; omega)) (by first | decide | (simp only [rmv]; omega)) dX2_setMinimum_2 (koi (fun h1 => ko1 ?_) (fun h1 => kox ?_))
  · have hy1 := (eth_Rg hD h1).1
    have hy2 := (eth_Rg hD h1).2
    refine r_astore_n X dX2_setMinimum_5 (i := 3) rfl (by decide) rfl ?_
    refine r_iload_n X dX2_setMinimum_6 (i := 2) rfl rfl ?_
    refine r_iconst X dX2_setMinimum_7 (v := nI 1) (by decide) ?_
    refine r_bipush X dX2_setMinimum_8 (v := nI 16) (by decide) ?_
    refine r_callS X (c_X2_isBetween hnt hw ) mw_X2_isBetween mi_X2_isBetween ml_X2_33 rfl rfl (Nat.le_of_ble_eq_true rfl) (by first | decide | (simp only [rmv]; omega)) (by first | decide | (simp only [rmv]; omega)) (by first | decide | (simp only [rmv]; omega)) (by first | decide | (simp only [rmv]; omega)) dX2_setMinimum_10 (ko1 ?_)
    first | with_reducible refine r_ifb_ne X dX2_setMinimum_13 (tgt := 26) (by decide) (fun h2 => ?_) (fun h2 => ?_) | refine r_if_ne X dX2_setMinimum_13 (tgt := 26) (by decide) (fun h2 => ?_) (fun h2 => ?_)
    · refine r_aload_n X dX2_setMinimum_26 (i := 3) rfl rfl ?_
      refine r_getN X kc0 (j := 3) (hw.2 _ _ (by first | decide | (simp [cnt] <;> omega))) ev0 (by decide) rfl fl_X2_133 dX2_setMinimum_27 ?_
      refine r_bipush X dX2_setMinimum_30 (v := nI 99) (by decide) ?_
      first | with_reducible refine r_icmpn_eq X dX2_setMinimum_32 (tgt := 45) (by decide) (by omega) (by omega) (fun h3 => ?_) (fun h3 => ?_) | refine r_icmp_eq X dX2_setMinimum_32 (tgt := 45) (by decide) (fun h3 => ?_) (fun h3 => ?_)
      · refine r_aload_n X dX2_setMinimum_45 (i := 3) rfl rfl ?_
        refine r_getN X kc0 (j := 6) (hw.2 _ _ (by first | decide | (simp [cnt] <;> omega))) ev0 (by decide) rfl fl_X2_142 dX2_setMinimum_46 ?_
        refine r_istore X dX2_setMinimum_49 (by decide) rfl ?_
        refine r_aload_n X dX2_setMinimum_51 (i := 3) rfl rfl ?_
        refine r_iload_n X dX2_setMinimum_52 (i := 2) rfl rfl ?_
        refine r_putN X kc0 (j := 6) (hw.2 _ _ (by first | decide | (simp [cnt] <;> omega))) ev0 (by decide) (Nat.le_of_ble_eq_true rfl) fl_X2_142 rfl rfl rfl dX2_setMinimum_53 es_0_6 ?_
        refine r_iload X dX2_setMinimum_56 rfl ?_
        refine r_iret X dX2_setMinimum_58 (by first | decide | (simp only [rmv]; omega)) (by first | decide | (simp only [rmv]; omega)) ?_
        first | with_reducible rfl | (simp [oSetMinimum, ms_o, ms_s, h1, h2, h3]; done) | contradiction | with_reducible assumption
      · refine r_throwS X (cls := xUOE) (by decide +kernel) kl_137 ki_xUOE (sw_139) at_xUOE dX2_setMinimum_35 dX2_setMinimum_38 dX2_setMinimum_39 dX2_setMinimum_41 dX2_setMinimum_44 (by first | decide | (simp only [rmv]; omega)) (by first | decide | (simp [Value.category, rmv] <;> omega)) (by first | decide | (simp only [rmv]; omega)) (by first | decide | (simp only [rmv]; omega)) (by first | decide | (simp only [rmv]; omega)) (by first | decide | (simp only [rmv]; omega)) ?_
        simp [oSetMinimum, ms_o, ms_s, h1, h2, h3]
    · refine r_throwS X (cls := xIAE) (by decide +kernel) kl_48 ki_xIAE (sw_131) at_xIAE dX2_setMinimum_16 dX2_setMinimum_19 dX2_setMinimum_20 dX2_setMinimum_22 dX2_setMinimum_25 (by first | decide | (simp only [rmv]; omega)) (by first | decide | (simp [Value.category, rmv] <;> omega)) (by first | decide | (simp only [rmv]; omega)) (by first | decide | (simp only [rmv]; omega)) (by first | decide | (simp only [rmv]; omega)) (by first | decide | (simp only [rmv]; omega)) ?_
      simp [oSetMinimum, ms_o, ms_s, h1, h2]
  · refine r_out X (by first | decide | (simp only [rmv]; omega)) (by first | decide | (simp only [rmv]; omega)) ?_
    simp [oSetMinimum, ms_o, ms_s, h1]

set_option maxHeartbeats 4000000 in
set_option maxRecDepth 100000 in
theorem c_X2_setPrice {l : Launch} {w : Wo} {M : Mem} {G : Lng} {x d9 : Int32} (hnt : l.stackTraces = false) (hw : WK w) (hD : DI M) : CT l yX2_setPrice [Cond.code yX2_setPrice cX2_setPrice 5 (some .int)] 7 4 24 w [.ref (w.1 (2, 0)), .int x, .int d9] M G (oSetPrice M G x d9) := by
  refine CT_of hnt hw.1 mw_X2_setPrice (by simp [Value.category]) (Nat.le_of_ble_eq_true rfl) (fun p e s m args below meth c X => ?_)
  refine r_aload_n X dX2_setPrice_0 (i := 0) rfl rfl ?_
  refine r_iload_n X dX2_setPrice_1 (i := 1) rfl rfl ?_
  refine r_callV X (c_X2_entitlementAt hnt hw (by first | with_reducible assumption | with_reducible rfl | omega | (with_reducible (repeat (first | assumption | refine DI_chg ?_ | refine DI_clr ?_ | refine DI_scr rfl ?_)); done))) mw_X2_entitlementAt kc2 mi_X2_entitlementAt (hw.2 _ _ (by first | decide | (simp [cnt] <;> omega))) ev2 ml_X2_114 rfl rfl (Nat.le_of_ble_eq_true rfl) (by first | decide | (simp only [rmv]; omega)) (by first | decide | (simp only [rmv]; omega)) (by first | decide | (simp only [rmv]; omega)) (by first | decide | (simp only [rmv]; omega)) dX2_setPrice_2 (koi (fun h1 => ko1 ?_) (fun h1 => kox ?_))
  · have hy1 := (eth_Rg hD h1).1
    have hy2 := (eth_Rg hD h1).2
    refine r_astore_n X dX2_setPrice_5 (i := 3) rfl (by decide) rfl ?_
    refine r_iload_n X dX2_setPrice_6 (i := 2) rfl rfl ?_
    refine r_iconst X dX2_setPrice_7 (v := nI 1) (by decide) ?_
    refine r_bipush X dX2_setPrice_8 (v := nI 99) (by decide) ?_
    refine r_callS X (c_X2_isBetween hnt hw ) mw_X2_isBetween mi_X2_isBetween ml_X2_33 rfl rfl (Nat.le_of_ble_eq_true rfl) (by first | decide | (simp only [rmv]; omega)) (by first | decide | (simp only [rmv]; omega)) (by first | decide | (simp only [rmv]; omega)) (by first | decide | (simp only [rmv]; omega)) dX2_setPrice_10 (ko1 ?_)
    first | with_reducible refine r_ifb_ne X dX2_setPrice_13 (tgt := 26) (by decide) (fun h2 => ?_) (fun h2 => ?_) | refine r_if_ne X dX2_setPrice_13 (tgt := 26) (by decide) (fun h2 => ?_) (fun h2 => ?_)
    · refine r_aload_n X dX2_setPrice_26 (i := 3) rfl rfl ?_
      refine r_getN X kc0 (j := 7) (hw.2 _ _ (by first | decide | (simp [cnt] <;> omega))) ev0 (by decide) rfl fl_X2_147 dX2_setPrice_27 ?_
      refine r_istore X dX2_setPrice_30 (by decide) rfl ?_
      refine r_aload_n X dX2_setPrice_32 (i := 3) rfl rfl ?_
      refine r_iload_n X dX2_setPrice_33 (i := 2) rfl rfl ?_
      refine r_putN X kc0 (j := 7) (hw.2 _ _ (by first | decide | (simp [cnt] <;> omega))) ev0 (by decide) (Nat.le_of_ble_eq_true rfl) fl_X2_147 rfl rfl rfl dX2_setPrice_34 es_0_7 ?_
      refine r_iload X dX2_setPrice_37 rfl ?_
      refine r_iret X dX2_setPrice_39 (by first | decide | (simp only [rmv]; omega)) (by first | decide | (simp only [rmv]; omega)) ?_
      first | with_reducible rfl | (simp [oSetPrice, ms_o, ms_s, h1, h2]; done) | contradiction | with_reducible assumption
    · refine r_throwS X (cls := xIAE) (by decide +kernel) kl_48 ki_xIAE (sw_145) at_xIAE dX2_setPrice_16 dX2_setPrice_19 dX2_setPrice_20 dX2_setPrice_22 dX2_setPrice_25 (by first | decide | (simp only [rmv]; omega)) (by first | decide | (simp [Value.category, rmv] <;> omega)) (by first | decide | (simp only [rmv]; omega)) (by first | decide | (simp only [rmv]; omega)) (by first | decide | (simp only [rmv]; omega)) (by first | decide | (simp only [rmv]; omega)) ?_
      simp [oSetPrice, ms_o, ms_s, h1, h2]
  · refine r_out X (by first | decide | (simp only [rmv]; omega)) (by first | decide | (simp only [rmv]; omega)) ?_
    simp [oSetPrice, ms_o, ms_s, h1]

set_option maxHeartbeats 4000000 in
set_option maxRecDepth 100000 in
theorem c_X2_addUnits {l : Launch} {w : Wo} {M : Mem} {G : Lng} {x d9 : Int32} (hnt : l.stackTraces = false) (hw : WK w) (hD : DI M) : CT l yX2_addUnits [Cond.code yX2_addUnits cX2_addUnits 4 (some .int)] 7 4 24 w [.ref (w.1 (2, 0)), .int x, .int d9] M G (oAddUnits M G x d9) := by
  refine CT_of hnt hw.1 mw_X2_addUnits (by simp [Value.category]) (Nat.le_of_ble_eq_true rfl) (fun p e s m args below meth c X => ?_)
  refine r_aload_n X dX2_addUnits_0 (i := 0) rfl rfl ?_
  refine r_iload_n X dX2_addUnits_1 (i := 1) rfl rfl ?_
  refine r_callV X (c_X2_entitlementAt hnt hw (by first | with_reducible assumption | with_reducible rfl | omega | (with_reducible (repeat (first | assumption | refine DI_chg ?_ | refine DI_clr ?_ | refine DI_scr rfl ?_)); done))) mw_X2_entitlementAt kc2 mi_X2_entitlementAt (hw.2 _ _ (by first | decide | (simp [cnt] <;> omega))) ev2 ml_X2_114 rfl rfl (Nat.le_of_ble_eq_true rfl) (by first | decide | (simp only [rmv]; omega)) (by first | decide | (simp only [rmv]; omega)) (by first | decide | (simp only [rmv]; omega)) (by first | decide | (simp only [rmv]; omega)) dX2_addUnits_2 (koi (fun h1 => ko1 ?_) (fun h1 => kox ?_))
  · have hy1 := (eth_Rg hD h1).1
    have hy2 := (eth_Rg hD h1).2
    refine r_astore_n X dX2_addUnits_5 (i := 3) rfl (by decide) rfl ?_
    refine r_iload_n X dX2_addUnits_6 (i := 2) rfl rfl ?_
    refine r_iconst X dX2_addUnits_7 (v := nI 1) (by decide) ?_
    refine r_bipush X dX2_addUnits_8 (v := nI 99) (by decide) ?_
    refine r_callS X (c_X2_isBetween hnt hw ) mw_X2_isBetween mi_X2_isBetween ml_X2_33 rfl rfl (Nat.le_of_ble_eq_true rfl) (by first | decide | (simp only [rmv]; omega)) (by first | decide | (simp only [rmv]; omega)) (by first | decide | (simp only [rmv]; omega)) (by first | decide | (simp only [rmv]; omega)) dX2_addUnits_10 (ko1 ?_)
    first | with_reducible refine r_ifb_ne X dX2_addUnits_13 (tgt := 26) (by decide) (fun h2 => ?_) (fun h2 => ?_) | refine r_if_ne X dX2_addUnits_13 (tgt := 26) (by decide) (fun h2 => ?_) (fun h2 => ?_)
    · refine r_aload_n X dX2_addUnits_26 (i := 3) rfl rfl ?_
      refine r_getN X kc0 (j := 4) (hw.2 _ _ (by first | decide | (simp [cnt] <;> omega))) ev0 (by decide) rfl fl_X2_152 dX2_addUnits_27 ?_
      refine r_iload_n X dX2_addUnits_30 (i := 2) rfl rfl ?_
      refine r_iadd X dX2_addUnits_31 ?_
      refine r_sipush X dX2_addUnits_32 (v := nI 999) (by decide) ?_
      first | with_reducible refine r_icmpn_le X dX2_addUnits_35 (tgt := 48) (by decide) (by omega) (by omega) (fun h3 => ?_) (fun h3 => ?_) | refine r_icmp_le X dX2_addUnits_35 (tgt := 48) (by decide) (fun h3 => ?_) (fun h3 => ?_)
      · refine r_aload_n X dX2_addUnits_48 (i := 3) rfl rfl ?_
        refine r_dup X dX2_addUnits_49 rfl ?_
        refine r_getN X kc0 (j := 4) (hw.2 _ _ (by first | decide | (simp [cnt] <;> omega))) ev0 (by decide) rfl fl_X2_152 dX2_addUnits_50 ?_
        refine r_iload_n X dX2_addUnits_53 (i := 2) rfl rfl ?_
        refine r_iadd X dX2_addUnits_54 ?_
        refine r_putN X kc0 (j := 4) (hw.2 _ _ (by first | decide | (simp [cnt] <;> omega))) ev0 (by decide) (Nat.le_of_ble_eq_true rfl) fl_X2_152 rfl rfl rfl dX2_addUnits_55 es_0_4 ?_
        refine r_aload_n X dX2_addUnits_58 (i := 3) rfl rfl ?_
        refine r_getN X kc0 (j := 4) (hw.2 _ _ (by first | decide | (simp [cnt] <;> omega))) ev0 (by decide) rfl fl_X2_152 dX2_addUnits_59 ?_
        refine r_iret X dX2_addUnits_62 (by first | decide | (simp only [rmv]; omega)) (by first | decide | (simp only [rmv]; omega)) ?_
        first | with_reducible rfl | (simp [oAddUnits, ms_o, ms_s, h1, h2, h3]; done) | contradiction | with_reducible assumption
      · refine r_throwS X (cls := xISE) (by decide +kernel) kl_62 ki_xISE (sw_155) at_xISE dX2_addUnits_38 dX2_addUnits_41 dX2_addUnits_42 dX2_addUnits_44 dX2_addUnits_47 (by first | decide | (simp only [rmv]; omega)) (by first | decide | (simp [Value.category, rmv] <;> omega)) (by first | decide | (simp only [rmv]; omega)) (by first | decide | (simp only [rmv]; omega)) (by first | decide | (simp only [rmv]; omega)) (by first | decide | (simp only [rmv]; omega)) ?_
        simp [oAddUnits, ms_o, ms_s, h1, h2, h3]
    · refine r_throwS X (cls := xIAE) (by decide +kernel) kl_48 ki_xIAE (sw_150) at_xIAE dX2_addUnits_16 dX2_addUnits_19 dX2_addUnits_20 dX2_addUnits_22 dX2_addUnits_25 (by first | decide | (simp only [rmv]; omega)) (by first | decide | (simp [Value.category, rmv] <;> omega)) (by first | decide | (simp only [rmv]; omega)) (by first | decide | (simp only [rmv]; omega)) (by first | decide | (simp only [rmv]; omega)) (by first | decide | (simp only [rmv]; omega)) ?_
      simp [oAddUnits, ms_o, ms_s, h1, h2]
  · refine r_out X (by first | decide | (simp only [rmv]; omega)) (by first | decide | (simp only [rmv]; omega)) ?_
    simp [oAddUnits, ms_o, ms_s, h1]

set_option maxHeartbeats 4000000 in
set_option maxRecDepth 100000 in
theorem c_X2_units {l : Launch} {w : Wo} {M : Mem} {G : Lng} {x : Int32} (hnt : l.stackTraces = false) (hw : WK w) (hD : DI M) : CT l yX2_units [Cond.code yX2_units cX2_units 2 (some .int)] 7 4 24 w [.ref (w.1 (2, 0)), .int x] M G (oUnits M G x) := by
  refine CT_of hnt hw.1 mw_X2_units (by simp [Value.category]) (Nat.le_of_ble_eq_true rfl) (fun p e s m args below meth c X => ?_)
  refine r_aload_n X dX2_units_0 (i := 0) rfl rfl ?_
  refine r_iload_n X dX2_units_1 (i := 1) rfl rfl ?_
  refine r_callV X (c_X2_entitlementAt hnt hw (by first | with_reducible assumption | with_reducible rfl | omega | (with_reducible (repeat (first | assumption | refine DI_chg ?_ | refine DI_clr ?_ | refine DI_scr rfl ?_)); done))) mw_X2_entitlementAt kc2 mi_X2_entitlementAt (hw.2 _ _ (by first | decide | (simp [cnt] <;> omega))) ev2 ml_X2_114 rfl rfl (Nat.le_of_ble_eq_true rfl) (by first | decide | (simp only [rmv]; omega)) (by first | decide | (simp only [rmv]; omega)) (by first | decide | (simp only [rmv]; omega)) (by first | decide | (simp only [rmv]; omega)) dX2_units_2 (koi (fun h1 => ko1 ?_) (fun h1 => kox ?_))
  · have hy1 := (eth_Rg hD h1).1
    have hy2 := (eth_Rg hD h1).2
    refine r_getN X kc0 (j := 4) (hw.2 _ _ (by first | decide | (simp [cnt] <;> omega))) ev0 (by decide) rfl fl_X2_152 dX2_units_5 ?_
    refine r_iret X dX2_units_8 (by first | decide | (simp only [rmv]; omega)) (by first | decide | (simp only [rmv]; omega)) ?_
    first | with_reducible rfl | (simp [oUnits, ms_o, ms_s, h1]; done) | contradiction | with_reducible assumption
  · refine r_out X (by first | decide | (simp only [rmv]; omega)) (by first | decide | (simp only [rmv]; omega)) ?_
    simp [oUnits, ms_o, ms_s, h1]

set_option maxHeartbeats 4000000 in
set_option maxRecDepth 100000 in
theorem c_X2_why {l : Launch} {w : Wo} {M : Mem} {G : Lng} {x y : Int32} (hnt : l.stackTraces = false) (hw : WK w) (hD : DI M) : CT l yX2_why [Cond.code yX2_why cX2_why 4 (some .char)] 7 4 24 w [.ref (w.1 (2, 0)), .int x, .int y] M G (oWhy M G x y) := by
  refine CT_of hnt hw.1 mw_X2_why (by simp [Value.category]) (Nat.le_of_ble_eq_true rfl) (fun p e s m args below meth c X => ?_)
  refine r_aload_n X dX2_why_0 (i := 0) rfl rfl ?_
  refine r_iload_n X dX2_why_1 (i := 1) rfl rfl ?_
  refine r_callV X (c_X2_installAt hnt hw ) mw_X2_installAt kc2 mi_X2_installAt (hw.2 _ _ (by first | decide | (simp [cnt] <;> omega))) ev2 ml_X2_71 rfl rfl (Nat.le_of_ble_eq_true rfl) (by first | decide | (simp only [rmv]; omega)) (by first | decide | (simp only [rmv]; omega)) (by first | decide | (simp only [rmv]; omega)) (by first | decide | (simp only [rmv]; omega)) dX2_why_2 (koi (fun h1 => ko1 ?_) (fun h1 => kox ?_))
  · have hx1 := (thr_Rg h1).1
    have hx2 := (thr_Rg h1).2
    refine r_astore_n X dX2_why_5 (i := 3) rfl (by decide) rfl ?_
    refine r_aload_n X dX2_why_6 (i := 0) rfl rfl ?_
    refine r_iload_n X dX2_why_7 (i := 2) rfl rfl ?_
    refine r_callV X (c_X2_entitlementAt hnt hw (by first | with_reducible assumption | with_reducible rfl | omega | (with_reducible (repeat (first | assumption | refine DI_chg ?_ | refine DI_clr ?_ | refine DI_scr rfl ?_)); done))) mw_X2_entitlementAt kc2 mi_X2_entitlementAt (hw.2 _ _ (by first | decide | (simp [cnt] <;> omega))) ev2 ml_X2_114 rfl rfl (Nat.le_of_ble_eq_true rfl) (by first | decide | (simp only [rmv]; omega)) (by first | decide | (simp only [rmv]; omega)) (by first | decide | (simp only [rmv]; omega)) (by first | decide | (simp only [rmv]; omega)) dX2_why_8 (koi (fun h2 => ko1 ?_) (fun h2 => kox ?_))
    · have hy1 := (eth_Rg hD h2).1
      have hy2 := (eth_Rg hD h2).2
      refine r_aload_n X dX2_why_11 (i := 3) rfl rfl ?_
      refine r_callVN X (c_X0_misfit hnt hw (by first | with_reducible assumption | with_reducible rfl | omega | (with_reducible (repeat (first | assumption | refine DI_chg ?_ | refine DI_clr ?_ | refine DI_scr rfl ?_)); done)) (by first | with_reducible assumption | with_reducible rfl | omega | (with_reducible (repeat (first | assumption | refine DI_chg ?_ | refine DI_clr ?_ | refine DI_scr rfl ?_)); done))) mw_X0_misfit kc0 mi_X0_misfit (hw.2 _ _ (by first | decide | (simp [cnt] <;> omega))) ev0 ml_X2_157 rfl rfl (Nat.le_of_ble_eq_true rfl) (by first | decide | (simp only [rmv]; omega)) (by first | decide | (simp only [rmv]; omega)) (by first | decide | (simp only [rmv]; omega)) (by first | decide | (simp only [rmv]; omega)) dX2_why_12 (ko1 ?_)
      refine r_cret X dX2_why_15 (by first | with_reducible exact mis_c _ _ _ | rfl | assumption) (by first | decide | (simp only [rmv]; omega)) (by first | decide | (simp only [rmv]; omega)) ?_
      first | with_reducible rfl | (simp [oWhy, ms_o, ms_s, h1, h2]; done) | contradiction
    · refine r_out X (by first | decide | (simp only [rmv]; omega)) (by first | decide | (simp only [rmv]; omega)) ?_
      simp [oWhy, ms_o, ms_s, h1, h2]
  · refine r_out X (by first | decide | (simp only [rmv]; omega)) (by first | decide | (simp only [rmv]; omega)) ?_
    simp [oWhy, ms_o, ms_s, h1]

end M3
