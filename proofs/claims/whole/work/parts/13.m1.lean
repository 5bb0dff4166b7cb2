/-! LEAF METHODS OF THE CLASS -/
section M1
def btw (a b c : Int32) : Bool := !decide (a < b) && !decide (c < a)
def rel (v e : Int32) : Bool := btw v (nI 1) (nI 9) && btw e (nI 1) (nI 3)
def hol (d : Int32) : Bool := btw d (nI 0) (nI 9)
def pol (d : Int32) : Bool := btw d (nI 0) (nI 2)
def met (m : Int32) : Bool := decide (m = nI 100) || decide (m = nI 117) || decide (m = nI 99)
theorem btw_t {a b c : Int32} (h1 : ¬ a < b) (h2 : ¬ c < a) : nI 1 = bi (btw a b c) := by simp [btw, h1, h2, bi_t]
/-- the first reason for which an entitlement doesn't fit -/
def mis (M : Mem) (e i : Nat) : Int32 :=
  if (M 0 e 0 &&& (nI 1 <<< (M 1 i 1 &&& 31))) = 0 then nI 112
  else if ¬ (M 0 e 5 = -1) ∧ ¬ (M 0 e 5 = M 1 i 7) then nI 111
  else if M 0 e 2 < M 1 i 3 ∨ (¬ (M 0 e 2 ≤ M 1 i 3) ∧ M 0 e 8 = 0) then nI 101
  else if (¬ (M 0 e 1 ≤ M 1 i 2) ∧ M 0 e 8 = 0) ∨ (¬ (M 1 i 2 ≤ M 0 e 1) ∧ M 0 e 9 = 0) then nI 118
  else nI 45
def fit (M : Mem) (e i : Nat) : Bool := !decide (M 1 i 0 = 0) && decide (mis M e i = nI 45)
set_option maxHeartbeats 4000000 in
set_option maxRecDepth 100000 in
theorem c_X2_isBetween {l : Launch} {w : Wo} {M : Mem} {G : Lng} {a b c9 : Int32} (hnt : l.stackTraces = false) (hw : WK w)  : CT l yX2_isBetween [Cond.code yX2_isBetween cX2_isBetween 3 (some .boolean)] 1 0 0 w [.int a, .int b, .int c9] M G (okO (some (.int (bi (btw a b c9)))) M G) := by
  refine CT_of hnt hw.1 mw_X2_isBetween (by simp [Value.category]) (Nat.le_of_ble_eq_true rfl) (fun p e s m args below meth c X => ?_)
  refine r_iload_n X dX2_isBetween_0 (i := 0) rfl rfl ?_
  refine r_iload_n X dX2_isBetween_1 (i := 1) rfl rfl ?_
  first | with_reducible refine r_icmpn_lt X dX2_isBetween_2 (tgt := 14) (by decide) (by omega) (by omega) (fun h1 => ?_) (fun h1 => ?_) | refine r_icmp_lt X dX2_isBetween_2 (tgt := 14) (by decide) (fun h1 => ?_) (fun h1 => ?_)
  · refine r_iconst X dX2_isBetween_14 (v := nI 0) (by decide) ?_
    refine r_zret X dX2_isBetween_15 (by first | decide | (simp only [rmv]; omega)) (by first | decide | (simp only [rmv]; omega)) (by with_reducible rfl) ?_
    first | with_reducible rfl | (simp [btw, bi_f, bi_t, h1]; done) | contradiction
  · refine r_iload_n X dX2_isBetween_5 (i := 0) rfl rfl ?_
    refine r_iload_n X dX2_isBetween_6 (i := 2) rfl rfl ?_
    first | with_reducible refine r_icmpn_gt X dX2_isBetween_7 (tgt := 14) (by decide) (by omega) (by omega) (fun h2 => ?_) (fun h2 => ?_) | refine r_icmp_gt X dX2_isBetween_7 (tgt := 14) (by decide) (fun h2 => ?_) (fun h2 => ?_)
    · refine r_iconst X dX2_isBetween_14 (v := nI 0) (by decide) ?_
      refine r_zret X dX2_isBetween_15 (by first | decide | (simp only [rmv]; omega)) (by first | decide | (simp only [rmv]; omega)) (by with_reducible rfl) ?_
      first | with_reducible rfl | (simp [btw, bi_f, bi_t, h1, h2]; done) | contradiction
    · refine r_iconst X dX2_isBetween_10 (v := nI 1) (by decide) ?_
      refine r_goto X dX2_isBetween_11 (tgt := 15) (by decide) ?_
      refine r_zret X dX2_isBetween_15 (by first | decide | (simp only [rmv]; omega)) (by first | decide | (simp only [rmv]; omega)) (by with_reducible rfl) ?_
      first | with_reducible rfl | (simp [btw, bi_f, bi_t, h1, h2]; done) | contradiction

set_option maxHeartbeats 4000000 in
set_option maxRecDepth 100000 in
theorem c_X2_isRelease {l : Launch} {w : Wo} {M : Mem} {G : Lng} {v e9 : Int32} (hnt : l.stackTraces = false) (hw : WK w)  : CT l yX2_isRelease [Cond.code yX2_isRelease cX2_isRelease 2 (some .boolean)] 2 0 0 w [.int v, .int e9] M G (okO (some (.int (bi (rel v e9)))) M G) := by
  refine CT_of hnt hw.1 mw_X2_isRelease (by simp [Value.category]) (Nat.le_of_ble_eq_true rfl) (fun p e s m args below meth c X => ?_)
  refine r_iload_n X dX2_isRelease_0 (i := 0) rfl rfl ?_
  refine r_iconst X dX2_isRelease_1 (v := nI 1) (by decide) ?_
  refine r_bipush X dX2_isRelease_2 (v := nI 9) (by decide) ?_
  refine r_callS X (c_X2_isBetween hnt hw ) mw_X2_isBetween mi_X2_isBetween ml_X2_33 rfl rfl (Nat.le_of_ble_eq_true rfl) (by first | decide | (simp only [rmv]; omega)) (by first | decide | (simp only [rmv]; omega)) (by first | decide | (simp only [rmv]; omega)) (by first | decide | (simp only [rmv]; omega)) dX2_isRelease_4 (ko1 ?_)
  first | with_reducible refine r_ifb_eq X dX2_isRelease_7 (tgt := 23) (by decide) (fun h1 => ?_) (fun h1 => ?_) | refine r_if_eq X dX2_isRelease_7 (tgt := 23) (by decide) (fun h1 => ?_) (fun h1 => ?_)
  · refine r_iconst X dX2_isRelease_23 (v := nI 0) (by decide) ?_
    refine r_zret X dX2_isRelease_24 (by first | decide | (simp only [rmv]; omega)) (by first | decide | (simp only [rmv]; omega)) (by with_reducible rfl) ?_
    first | with_reducible rfl | (simp [rel, bi_f, bi_t, h1]; done) | contradiction
  · refine r_iload_n X dX2_isRelease_10 (i := 1) rfl rfl ?_
    refine r_iconst X dX2_isRelease_11 (v := nI 1) (by decide) ?_
    refine r_iconst X dX2_isRelease_12 (v := nI 3) (by decide) ?_
    refine r_callS X (c_X2_isBetween hnt hw ) mw_X2_isBetween mi_X2_isBetween ml_X2_33 rfl rfl (Nat.le_of_ble_eq_true rfl) (by first | decide | (simp only [rmv]; omega)) (by first | decide | (simp only [rmv]; omega)) (by first | decide | (simp only [rmv]; omega)) (by first | decide | (simp only [rmv]; omega)) dX2_isRelease_13 (ko1 ?_)
    first | with_reducible refine r_ifb_eq X dX2_isRelease_16 (tgt := 23) (by decide) (fun h2 => ?_) (fun h2 => ?_) | refine r_if_eq X dX2_isRelease_16 (tgt := 23) (by decide) (fun h2 => ?_) (fun h2 => ?_)
    · refine r_iconst X dX2_isRelease_23 (v := nI 0) (by decide) ?_
      refine r_zret X dX2_isRelease_24 (by first | decide | (simp only [rmv]; omega)) (by first | decide | (simp only [rmv]; omega)) (by with_reducible rfl) ?_
      first | with_reducible rfl | (simp [rel, bi_f, bi_t, h1, h2]; done) | contradiction
    · refine r_iconst X dX2_isRelease_19 (v := nI 1) (by decide) ?_
      refine r_goto X dX2_isRelease_20 (tgt := 24) (by decide) ?_
      refine r_zret X dX2_isRelease_24 (by first | decide | (simp only [rmv]; omega)) (by first | decide | (simp only [rmv]; omega)) (by with_reducible rfl) ?_
      first | with_reducible rfl | (simp [rel, bi_f, bi_t, h1, h2]; done) | contradiction

set_option maxHeartbeats 4000000 in
set_option maxRecDepth 100000 in
theorem c_X2_isHolder {l : Launch} {w : Wo} {M : Mem} {G : Lng} {v : Int32} (hnt : l.stackTraces = false) (hw : WK w)  : CT l yX2_isHolder [Cond.code yX2_isHolder cX2_isHolder 1 (some .boolean)] 2 0 0 w [.int v] M G (okO (some (.int (bi (hol v)))) M G) := by
  refine CT_of hnt hw.1 mw_X2_isHolder (by simp [Value.category]) (Nat.le_of_ble_eq_true rfl) (fun p e s m args below meth c X => ?_)
  refine r_iload_n X dX2_isHolder_0 (i := 0) rfl rfl ?_
  refine r_iconst X dX2_isHolder_1 (v := nI 0) (by decide) ?_
  refine r_bipush X dX2_isHolder_2 (v := nI 9) (by decide) ?_
  refine r_callS X (c_X2_isBetween hnt hw ) mw_X2_isBetween mi_X2_isBetween ml_X2_33 rfl rfl (Nat.le_of_ble_eq_true rfl) (by first | decide | (simp only [rmv]; omega)) (by first | decide | (simp only [rmv]; omega)) (by first | decide | (simp only [rmv]; omega)) (by first | decide | (simp only [rmv]; omega)) dX2_isHolder_4 (ko1 ?_)
  refine r_zret X dX2_isHolder_7 (by first | decide | (simp only [rmv]; omega)) (by first | decide | (simp only [rmv]; omega)) (by with_reducible rfl) ?_
  first | with_reducible rfl | (simp [hol, bi_f, bi_t]; done) | contradiction

set_option maxHeartbeats 4000000 in
set_option maxRecDepth 100000 in
theorem c_X2_isPool {l : Launch} {w : Wo} {M : Mem} {G : Lng} {v : Int32} (hnt : l.stackTraces = false) (hw : WK w)  : CT l yX2_isPool [Cond.code yX2_isPool cX2_isPool 1 (some .boolean)] 2 0 0 w [.int v] M G (okO (some (.int (bi (pol v)))) M G) := by
  refine CT_of hnt hw.1 mw_X2_isPool (by simp [Value.category]) (Nat.le_of_ble_eq_true rfl) (fun p e s m args below meth c X => ?_)
  refine r_iload_n X dX2_isPool_0 (i := 0) rfl rfl ?_
  refine r_iconst X dX2_isPool_1 (v := nI 0) (by decide) ?_
  refine r_iconst X dX2_isPool_2 (v := nI 2) (by decide) ?_
  refine r_callS X (c_X2_isBetween hnt hw ) mw_X2_isBetween mi_X2_isBetween ml_X2_33 rfl rfl (Nat.le_of_ble_eq_true rfl) (by first | decide | (simp only [rmv]; omega)) (by first | decide | (simp only [rmv]; omega)) (by first | decide | (simp only [rmv]; omega)) (by first | decide | (simp only [rmv]; omega)) dX2_isPool_3 (ko1 ?_)
  refine r_zret X dX2_isPool_6 (by first | decide | (simp only [rmv]; omega)) (by first | decide | (simp only [rmv]; omega)) (by with_reducible rfl) ?_
  first | with_reducible rfl | (simp [pol, bi_f, bi_t]; done) | contradiction

set_option maxHeartbeats 4000000 in
set_option maxRecDepth 100000 in
theorem c_X2_isMetric {l : Launch} {w : Wo} {M : Mem} {G : Lng} {v : Int32} (hnt : l.stackTraces = false) (hw : WK w)  : CT l yX2_isMetric [Cond.code yX2_isMetric cX2_isMetric 1 (some .boolean)] 1 0 0 w [.int v] M G (okO (some (.int (bi (met v)))) M G) := by
  refine CT_of hnt hw.1 mw_X2_isMetric (by simp [Value.category]) (Nat.le_of_ble_eq_true rfl) (fun p e s m args below meth c X => ?_)
  refine r_iload_n X dX2_isMetric_0 (i := 0) rfl rfl ?_
  refine r_bipush X dX2_isMetric_1 (v := nI 100) (by decide) ?_
  first | with_reducible refine r_icmpn_eq X dX2_isMetric_3 (tgt := 18) (by decide) (by omega) (by omega) (fun h1 => ?_) (fun h1 => ?_) | refine r_icmp_eq X dX2_isMetric_3 (tgt := 18) (by decide) (fun h1 => ?_) (fun h1 => ?_)
  · refine r_iconst X dX2_isMetric_18 (v := nI 1) (by decide) ?_
    refine r_goto X dX2_isMetric_19 (tgt := 23) (by decide) ?_
    refine r_zret X dX2_isMetric_23 (by first | decide | (simp only [rmv]; omega)) (by first | decide | (simp only [rmv]; omega)) (by with_reducible rfl) ?_
    first | with_reducible rfl | (simp [met, bi_f, bi_t, h1]; done) | contradiction
  · refine r_iload_n X dX2_isMetric_6 (i := 0) rfl rfl ?_
    refine r_bipush X dX2_isMetric_7 (v := nI 117) (by decide) ?_
    first | with_reducible refine r_icmpn_eq X dX2_isMetric_9 (tgt := 18) (by decide) (by omega) (by omega) (fun h2 => ?_) (fun h2 => ?_) | refine r_icmp_eq X dX2_isMetric_9 (tgt := 18) (by decide) (fun h2 => ?_) (fun h2 => ?_)
    · refine r_iconst X dX2_isMetric_18 (v := nI 1) (by decide) ?_
      refine r_goto X dX2_isMetric_19 (tgt := 23) (by decide) ?_
      refine r_zret X dX2_isMetric_23 (by first | decide | (simp only [rmv]; omega)) (by first | decide | (simp only [rmv]; omega)) (by with_reducible rfl) ?_
      first | with_reducible rfl | (simp [met, bi_f, bi_t, h1, h2]; done) | contradiction
    · refine r_iload_n X dX2_isMetric_12 (i := 0) rfl rfl ?_
      refine r_bipush X dX2_isMetric_13 (v := nI 99) (by decide) ?_
      first | with_reducible refine r_icmpn_ne X dX2_isMetric_15 (tgt := 22) (by decide) (by omega) (by omega) (fun h3 => ?_) (fun h3 => ?_) | refine r_icmp_ne X dX2_isMetric_15 (tgt := 22) (by decide) (fun h3 => ?_) (fun h3 => ?_)
      · refine r_iconst X dX2_isMetric_22 (v := nI 0) (by decide) ?_
        refine r_zret X dX2_isMetric_23 (by first | decide | (simp only [rmv]; omega)) (by first | decide | (simp only [rmv]; omega)) (by with_reducible rfl) ?_
        first | with_reducible rfl | (simp [met, bi_f, bi_t, h1, h2, h3]; done) | contradiction
      · refine r_iconst X dX2_isMetric_18 (v := nI 1) (by decide) ?_
        refine r_goto X dX2_isMetric_19 (tgt := 23) (by decide) ?_
        refine r_zret X dX2_isMetric_23 (by first | decide | (simp only [rmv]; omega)) (by first | decide | (simp only [rmv]; omega)) (by with_reducible rfl) ?_
        first | with_reducible rfl | (simp [met, bi_f, bi_t, h1, h2, h3]; done) | contradiction

set_option maxHeartbeats 4000000 in
set_option maxRecDepth 100000 in
theorem c_X0_misfit {l : Launch} {w : Wo} {M : Mem} {G : Lng} {e9 i : Nat} (hnt : l.stackTraces = false) (hw : WK w) (he : e9 < 5) (hi : i < 12) : CT l yX0_misfit [Cond.code yX0_misfit cX0_misfit 2 (some .char)] 1 0 0 w [.ref (w.1 (0, e9)), .ref (w.1 (1, i))] M G (okO (some (.int (mis M e9 i))) M G) := by
  refine CT_of hnt hw.1 mw_X0_misfit (by simp [Value.category]) (Nat.le_of_ble_eq_true rfl) (fun p e s m args below meth c X => ?_)
  refine r_aload_n X dX0_misfit_0 (i := 0) rfl rfl ?_
  refine r_get X kc0 (j := 0) (hw.2 _ _ (by first | decide | (simp [cnt] <;> omega))) ev0 (by decide) rfl fl_X0_15 dX0_misfit_1 ?_
  refine r_iconst X dX0_misfit_4 (v := nI 1) (by decide) ?_
  refine r_aload_n X dX0_misfit_5 (i := 1) rfl rfl ?_
  refine r_getN X kc1 (j := 1) (hw.2 _ _ (by first | decide | (simp [cnt] <;> omega))) ev1 (by decide) rfl fl_X0_60 dX0_misfit_6 ?_
  refine r_ishl X dX0_misfit_9 ?_
  refine r_iand X dX0_misfit_10 ?_
  first | with_reducible refine r_ifb_ne X dX0_misfit_11 (tgt := 17) (by decide) (fun h1 => ?_) (fun h1 => ?_) | refine r_if_ne X dX0_misfit_11 (tgt := 17) (by decide) (fun h1 => ?_) (fun h1 => ?_)
  · refine r_aload_n X dX0_misfit_17 (i := 0) rfl rfl ?_
    refine r_get X kc0 (j := 5) (hw.2 _ _ (by first | decide | (simp [cnt] <;> omega))) ev0 (by decide) rfl fl_X0_32 dX0_misfit_18 ?_
    refine r_iconst X dX0_misfit_21 (v := -1) (by decide) ?_
    first | with_reducible refine r_icmpn_eq X dX0_misfit_22 (tgt := 39) (by decide) (by omega) (by omega) (fun h2 => ?_) (fun h2 => ?_) | refine r_icmp_eq X dX0_misfit_22 (tgt := 39) (by decide) (fun h2 => ?_) (fun h2 => ?_)
    · refine r_aload_n X dX0_misfit_39 (i := 1) rfl rfl ?_
      refine r_getN X kc1 (j := 3) (hw.2 _ _ (by first | decide | (simp [cnt] <;> omega))) ev1 (by decide) rfl fl_X0_64 dX0_misfit_40 ?_
      refine r_aload_n X dX0_misfit_43 (i := 0) rfl rfl ?_
      refine r_get X kc0 (j := 2) (hw.2 _ _ (by first | decide | (simp [cnt] <;> omega))) ev0 (by decide) rfl fl_X0_22 dX0_misfit_44 ?_
      first | with_reducible refine r_icmpn_gt X dX0_misfit_47 (tgt := 68) (by decide) (by omega) (by omega) (fun h3 => ?_) (fun h3 => ?_) | refine r_icmp_gt X dX0_misfit_47 (tgt := 68) (by decide) (fun h3 => ?_) (fun h3 => ?_)
      · refine r_bipush X dX0_misfit_68 (v := nI 101) (by decide) ?_
        refine r_cret X dX0_misfit_70 (by first | with_reducible exact mis_c _ _ _ | rfl | assumption) (by first | decide | (simp only [rmv]; omega)) (by first | decide | (simp only [rmv]; omega)) ?_
        first | with_reducible rfl | (simp [mis, h1, h2, h3]; done) | contradiction
      · refine r_aload_n X dX0_misfit_50 (i := 1) rfl rfl ?_
        refine r_getN X kc1 (j := 3) (hw.2 _ _ (by first | decide | (simp [cnt] <;> omega))) ev1 (by decide) rfl fl_X0_64 dX0_misfit_51 ?_
        refine r_aload_n X dX0_misfit_54 (i := 0) rfl rfl ?_
        refine r_get X kc0 (j := 2) (hw.2 _ _ (by first | decide | (simp [cnt] <;> omega))) ev0 (by decide) rfl fl_X0_22 dX0_misfit_55 ?_
        first | with_reducible refine r_icmpn_ge X dX0_misfit_58 (tgt := 71) (by decide) (by omega) (by omega) (fun h4 => ?_) (fun h4 => ?_) | refine r_icmp_ge X dX0_misfit_58 (tgt := 71) (by decide) (fun h4 => ?_) (fun h4 => ?_)
        · refine r_aload_n X dX0_misfit_71 (i := 1) rfl rfl ?_
          refine r_getN X kc1 (j := 2) (hw.2 _ _ (by first | decide | (simp [cnt] <;> omega))) ev1 (by decide) rfl fl_X0_65 dX0_misfit_72 ?_
          refine r_aload_n X dX0_misfit_75 (i := 0) rfl rfl ?_
          refine r_get X kc0 (j := 1) (hw.2 _ _ (by first | decide | (simp [cnt] <;> omega))) ev0 (by decide) rfl fl_X0_19 dX0_misfit_76 ?_
          first | with_reducible refine r_icmpn_ge X dX0_misfit_79 (tgt := 89) (by decide) (by omega) (by omega) (fun h5 => ?_) (fun h5 => ?_) | refine r_icmp_ge X dX0_misfit_79 (tgt := 89) (by decide) (fun h5 => ?_) (fun h5 => ?_)
          · refine r_aload_n X dX0_misfit_89 (i := 1) rfl rfl ?_
            refine r_getN X kc1 (j := 2) (hw.2 _ _ (by first | decide | (simp [cnt] <;> omega))) ev1 (by decide) rfl fl_X0_65 dX0_misfit_90 ?_
            refine r_aload_n X dX0_misfit_93 (i := 0) rfl rfl ?_
            refine r_get X kc0 (j := 1) (hw.2 _ _ (by first | decide | (simp [cnt] <;> omega))) ev0 (by decide) rfl fl_X0_19 dX0_misfit_94 ?_
            first | with_reducible refine r_icmpn_le X dX0_misfit_97 (tgt := 110) (by decide) (by omega) (by omega) (fun h6 => ?_) (fun h6 => ?_) | refine r_icmp_le X dX0_misfit_97 (tgt := 110) (by decide) (fun h6 => ?_) (fun h6 => ?_)
            · refine r_bipush X dX0_misfit_110 (v := nI 45) (by decide) ?_
              refine r_cret X dX0_misfit_112 (by first | with_reducible exact mis_c _ _ _ | rfl | assumption) (by first | decide | (simp only [rmv]; omega)) (by first | decide | (simp only [rmv]; omega)) ?_
              first | with_reducible rfl | (simp [mis, h1, h2, h3, h4, h5, h6]; done) | contradiction
            · refine r_aload_n X dX0_misfit_100 (i := 0) rfl rfl ?_
              refine r_get X kc0 (j := 9) (hw.2 _ _ (by first | decide | (simp [cnt] <;> omega))) ev0 (by decide) rfl fl_X0_45 dX0_misfit_101 ?_
              first | with_reducible refine r_ifb_ne X dX0_misfit_104 (tgt := 110) (by decide) (fun h7 => ?_) (fun h7 => ?_) | refine r_if_ne X dX0_misfit_104 (tgt := 110) (by decide) (fun h7 => ?_) (fun h7 => ?_)
              · refine r_bipush X dX0_misfit_110 (v := nI 45) (by decide) ?_
                refine r_cret X dX0_misfit_112 (by first | with_reducible exact mis_c _ _ _ | rfl | assumption) (by first | decide | (simp only [rmv]; omega)) (by first | decide | (simp only [rmv]; omega)) ?_
                first | with_reducible rfl | (simp [mis, h1, h2, h3, h4, h5, h6, h7]; done) | contradiction
              · refine r_bipush X dX0_misfit_107 (v := nI 118) (by decide) ?_
                refine r_cret X dX0_misfit_109 (by first | with_reducible exact mis_c _ _ _ | rfl | assumption) (by first | decide | (simp only [rmv]; omega)) (by first | decide | (simp only [rmv]; omega)) ?_
                first | with_reducible rfl | (simp [mis, h1, h2, h3, h4, h5, h6, h7]; done) | contradiction
          · refine r_aload_n X dX0_misfit_82 (i := 0) rfl rfl ?_
            refine r_get X kc0 (j := 8) (hw.2 _ _ (by first | decide | (simp [cnt] <;> omega))) ev0 (by decide) rfl fl_X0_41 dX0_misfit_83 ?_
            first | with_reducible refine r_ifb_eq X dX0_misfit_86 (tgt := 107) (by decide) (fun h8 => ?_) (fun h8 => ?_) | refine r_if_eq X dX0_misfit_86 (tgt := 107) (by decide) (fun h8 => ?_) (fun h8 => ?_)
            · refine r_bipush X dX0_misfit_107 (v := nI 118) (by decide) ?_
              refine r_cret X dX0_misfit_109 (by first | with_reducible exact mis_c _ _ _ | rfl | assumption) (by first | decide | (simp only [rmv]; omega)) (by first | decide | (simp only [rmv]; omega)) ?_
              first | with_reducible rfl | (simp [mis, h1, h2, h3, h4, h5, h8]; done) | contradiction
            · refine r_aload_n X dX0_misfit_89 (i := 1) rfl rfl ?_
              refine r_getN X kc1 (j := 2) (hw.2 _ _ (by first | decide | (simp [cnt] <;> omega))) ev1 (by decide) rfl fl_X0_65 dX0_misfit_90 ?_
              refine r_aload_n X dX0_misfit_93 (i := 0) rfl rfl ?_
              refine r_get X kc0 (j := 1) (hw.2 _ _ (by first | decide | (simp [cnt] <;> omega))) ev0 (by decide) rfl fl_X0_19 dX0_misfit_94 ?_
              first | with_reducible refine r_icmpn_le X dX0_misfit_97 (tgt := 110) (by decide) (by omega) (by omega) (fun h9 => ?_) (fun h9 => ?_) | refine r_icmp_le X dX0_misfit_97 (tgt := 110) (by decide) (fun h9 => ?_) (fun h9 => ?_)
              · refine r_bipush X dX0_misfit_110 (v := nI 45) (by decide) ?_
                refine r_cret X dX0_misfit_112 (by first | with_reducible exact mis_c _ _ _ | rfl | assumption) (by first | decide | (simp only [rmv]; omega)) (by first | decide | (simp only [rmv]; omega)) ?_
                first | with_reducible rfl | (simp [mis, h1, h2, h3, h4, h5, h8, h9]; done) | contradiction
              · refine r_aload_n X dX0_misfit_100 (i := 0) rfl rfl ?_
                refine r_get X kc0 (j := 9) (hw.2 _ _ (by first | decide | (simp [cnt] <;> omega))) ev0 (by decide) rfl fl_X0_45 dX0_misfit_101 ?_
                first | with_reducible refine r_ifb_ne X dX0_misfit_104 (tgt := 110) (by decide) (fun h10 => ?_) (fun h10 => ?_) | refine r_if_ne X dX0_misfit_104 (tgt := 110) (by decide) (fun h10 => ?_) (fun h10 => ?_)
                · refine r_bipush X dX0_misfit_110 (v := nI 45) (by decide) ?_
                  refine r_cret X dX0_misfit_112 (by first | with_reducible exact mis_c _ _ _ | rfl | assumption) (by first | decide | (simp only [rmv]; omega)) (by first | decide | (simp only [rmv]; omega)) ?_
                  first | with_reducible rfl | (simp [mis, h1, h2, h3, h4, h5, h8, h9, h10]; done) | contradiction
                · refine r_bipush X dX0_misfit_107 (v := nI 118) (by decide) ?_
                  refine r_cret X dX0_misfit_109 (by first | with_reducible exact mis_c _ _ _ | rfl | assumption) (by first | decide | (simp only [rmv]; omega)) (by first | decide | (simp only [rmv]; omega)) ?_
                  first | with_reducible rfl | (simp [mis, h1, h2, h3, h4, h5, h8, h9, h10]; done) | contradiction
        · refine r_aload_n X dX0_misfit_61 (i := 0) rfl rfl ?_
          refine r_get X kc0 (j := 8) (hw.2 _ _ (by first | decide | (simp [cnt] <;> omega))) ev0 (by decide) rfl fl_X0_41 dX0_misfit_62 ?_
          first | with_reducible refine r_ifb_ne X dX0_misfit_65 (tgt := 71) (by decide) (fun h11 => ?_) (fun h11 => ?_) | refine r_if_ne X dX0_misfit_65 (tgt := 71) (by decide) (fun h11 => ?_) (fun h11 => ?_)
          · refine r_aload_n X dX0_misfit_71 (i := 1) rfl rfl ?_
            refine r_getN X kc1 (j := 2) (hw.2 _ _ (by first | decide | (simp [cnt] <;> omega))) ev1 (by decide) rfl fl_X0_65 dX0_misfit_72 ?_
            refine r_aload_n X dX0_misfit_75 (i := 0) rfl rfl ?_
            refine r_get X kc0 (j := 1) (hw.2 _ _ (by first | decide | (simp [cnt] <;> omega))) ev0 (by decide) rfl fl_X0_19 dX0_misfit_76 ?_
            first | with_reducible refine r_icmpn_ge X dX0_misfit_79 (tgt := 89) (by decide) (by omega) (by omega) (fun h12 => ?_) (fun h12 => ?_) | refine r_icmp_ge X dX0_misfit_79 (tgt := 89) (by decide) (fun h12 => ?_) (fun h12 => ?_)
            · refine r_aload_n X dX0_misfit_89 (i := 1) rfl rfl ?_
              refine r_getN X kc1 (j := 2) (hw.2 _ _ (by first | decide | (simp [cnt] <;> omega))) ev1 (by decide) rfl fl_X0_65 dX0_misfit_90 ?_
              refine r_aload_n X dX0_misfit_93 (i := 0) rfl rfl ?_
              refine r_get X kc0 (j := 1) (hw.2 _ _ (by first | decide | (simp [cnt] <;> omega))) ev0 (by decide) rfl fl_X0_19 dX0_misfit_94 ?_
              first | with_reducible refine r_icmpn_le X dX0_misfit_97 (tgt := 110) (by decide) (by omega) (by omega) (fun h13 => ?_) (fun h13 => ?_) | refine r_icmp_le X dX0_misfit_97 (tgt := 110) (by decide) (fun h13 => ?_) (fun h13 => ?_)
              · refine r_bipush X dX0_misfit_110 (v := nI 45) (by decide) ?_
                refine r_cret X dX0_misfit_112 (by first | with_reducible exact mis_c _ _ _ | rfl | assumption) (by first | decide | (simp only [rmv]; omega)) (by first | decide | (simp only [rmv]; omega)) ?_
                first | with_reducible rfl | (simp [mis, h1, h2, h3, h4, h11, h12, h13]; done) | contradiction
              · refine r_aload_n X dX0_misfit_100 (i := 0) rfl rfl ?_
                refine r_get X kc0 (j := 9) (hw.2 _ _ (by first | decide | (simp [cnt] <;> omega))) ev0 (by decide) rfl fl_X0_45 dX0_misfit_101 ?_
                first | with_reducible refine r_ifb_ne X dX0_misfit_104 (tgt := 110) (by decide) (fun h14 => ?_) (fun h14 => ?_) | refine r_if_ne X dX0_misfit_104 (tgt := 110) (by decide) (fun h14 => ?_) (fun h14 => ?_)
                · refine r_bipush X dX0_misfit_110 (v := nI 45) (by decide) ?_
                  refine r_cret X dX0_misfit_112 (by first | with_reducible exact mis_c _ _ _ | rfl | assumption) (by first | decide | (simp only [rmv]; omega)) (by first | decide | (simp only [rmv]; omega)) ?_
                  first | with_reducible rfl | (simp [mis, h1, h2, h3, h4, h11, h12, h13, h14]; done) | contradiction
                · refine r_bipush X dX0_misfit_107 (v := nI 118) (by decide) ?_
                  refine r_cret X dX0_misfit_109 (by first | with_reducible exact mis_c _ _ _ | rfl | assumption) (by first | decide | (simp only [rmv]; omega)) (by first | decide | (simp only [rmv]; omega)) ?_
                  first | with_reducible rfl | (simp [mis, h1, h2, h3, h4, h11, h12, h13, h14]; done) | contradiction
            · refine r_aload_n X dX0_misfit_82 (i := 0) rfl rfl ?_
              refine r_get X kc0 (j := 8) (hw.2 _ _ (by first | decide | (simp [cnt] <;> omega))) ev0 (by decide) rfl fl_X0_41 dX0_misfit_83 ?_
              first | with_reducible refine r_ifb_eq X dX0_misfit_86 (tgt := 107) (by decide) (fun h15 => ?_) (fun h15 => ?_) | refine r_if_eq X dX0_misfit_86 (tgt := 107) (by decide) (fun h15 => ?_) (fun h15 => ?_)
              · refine r_bipush X dX0_misfit_107 (v := nI 118) (by decide) ?_
                refine r_cret X dX0_misfit_109 (by first | with_reducible exact mis_c _ _ _ | rfl | assumption) (by first | decide | (simp only [rmv]; omega)) (by first | decide | (simp only [rmv]; omega)) ?_
                first | with_reducible rfl | (simp [mis, h1, h2, h3, h4, h11, h12, h15]; done) | contradiction
              · refine r_aload_n X dX0_misfit_89 (i := 1) rfl rfl ?_
                refine r_getN X kc1 (j := 2) (hw.2 _ _ (by first | decide | (simp [cnt] <;> omega))) ev1 (by decide) rfl fl_X0_65 dX0_misfit_90 ?_
                refine r_aload_n X dX0_misfit_93 (i := 0) rfl rfl ?_
                refine r_get X kc0 (j := 1) (hw.2 _ _ (by first | decide | (simp [cnt] <;> omega))) ev0 (by decide) rfl fl_X0_19 dX0_misfit_94 ?_
                first | with_reducible refine r_icmpn_le X dX0_misfit_97 (tgt := 110) (by decide) (by omega) (by omega) (fun h16 => ?_) (fun h16 => ?_) | refine r_icmp_le X dX0_misfit_97 (tgt := 110) (by decide) (fun h16 => ?_) (fun h16 => ?_)
                · refine r_bipush X dX0_misfit_110 (v := nI 45) (by decide) ?_
                  refine r_cret X dX0_misfit_112 (by first | with_reducible exact mis_c _ _ _ | rfl | assumption) (by first | decide | (simp only [rmv]; omega)) (by first | decide | (simp only [rmv]; omega)) ?_
                  first | with_reducible rfl | (simp [mis, h1, h2, h3, h4, h11, h12, h15, h16]; done) | contradiction
                · refine r_aload_n X dX0_misfit_100 (i := 0) rfl rfl ?_
                  refine r_get X kc0 (j := 9) (hw.2 _ _ (by first | decide | (simp [cnt] <;> omega))) ev0 (by decide) rfl fl_X0_45 dX0_misfit_101 ?_
                  first | with_reducible refine r_ifb_ne X dX0_misfit_104 (tgt := 110) (by decide) (fun h17 => ?_) (fun h17 => ?_) | refine r_if_ne X dX0_misfit_104 (tgt := 110) (by decide) (fun h17 => ?_) (fun h17 => ?_)
                  · refine r_bipush X dX0_misfit_110 (v := nI 45) (by decide) ?_
                    refine r_cret X dX0_misfit_112 (by first | with_reducible exact mis_c _ _ _ | rfl | assumption) (by first | decide | (simp only [rmv]; omega)) (by first | decide | (simp only [rmv]; omega)) ?_
                    first | with_reducible rfl | (simp [mis, h1, h2, h3, h4, h11, h12, h15, h16, h17]; done) | contradiction
                  · refine r_bipush X dX0_misfit_107 (v := nI 118) (by decide) ?_
                    refine r_cret X dX0_misfit_109 (by first | with_reducible exact mis_c _ _ _ | rfl | assumption) (by first | decide | (simp only [rmv]; omega)) (by first | decide | (simp only [rmv]; omega)) ?_
                    first | with_reducible rfl | (simp [mis, h1, h2, h3, h4, h11, h12, h15, h16, h17]; done) | contradiction
          · refine r_bipush X dX0_misfit_68 (v := nI 101) (by decide) ?_
            refine r_cret X dX0_misfit_70 (by first | with_reducible exact mis_c _ _ _ | rfl | assumption) (by first | decide | (simp only [rmv]; omega)) (by first | decide | (simp only [rmv]; omega)) ?_
            first | with_reducible rfl | (simp [mis, h1, h2, h3, h4, h11]; done) | contradiction
    · refine r_aload_n X dX0_misfit_25 (i := 0) rfl rfl ?_
      refine r_get X kc0 (j := 5) (hw.2 _ _ (by first | decide | (simp [cnt] <;> omega))) ev0 (by decide) rfl fl_X0_32 dX0_misfit_26 ?_
      refine r_aload_n X dX0_misfit_29 (i := 1) rfl rfl ?_
      refine r_getN X kc1 (j := 7) (hw.2 _ _ (by first | decide | (simp [cnt] <;> omega))) ev1 (by decide) rfl fl_X0_63 dX0_misfit_30 ?_
      first | with_reducible refine r_icmpn_eq X dX0_misfit_33 (tgt := 39) (by decide) (by omega) (by omega) (fun h18 => ?_) (fun h18 => ?_) | refine r_icmp_eq X dX0_misfit_33 (tgt := 39) (by decide) (fun h18 => ?_) (fun h18 => ?_)
      · refine r_aload_n X dX0_misfit_39 (i := 1) rfl rfl ?_
        refine r_getN X kc1 (j := 3) (hw.2 _ _ (by first | decide | (simp [cnt] <;> omega))) ev1 (by decide) rfl fl_X0_64 dX0_misfit_40 ?_
        refine r_aload_n X dX0_misfit_43 (i := 0) rfl rfl ?_
        refine r_get X kc0 (j := 2) (hw.2 _ _ (by first | decide | (simp [cnt] <;> omega))) ev0 (by decide) rfl fl_X0_22 dX0_misfit_44 ?_
        first | with_reducible refine r_icmpn_gt X dX0_misfit_47 (tgt := 68) (by decide) (by omega) (by omega) (fun h19 => ?_) (fun h19 => ?_) | refine r_icmp_gt X dX0_misfit_47 (tgt := 68) (by decide) (fun h19 => ?_) (fun h19 => ?_)
        · refine r_bipush X dX0_misfit_68 (v := nI 101) (by decide) ?_
          refine r_cret X dX0_misfit_70 (by first | with_reducible exact mis_c _ _ _ | rfl | assumption) (by first | decide | (simp only [rmv]; omega)) (by first | decide | (simp only [rmv]; omega)) ?_
          first | with_reducible rfl | (simp [mis, h1, h2, h18, h19]; done) | contradiction
        · refine r_aload_n X dX0_misfit_50 (i := 1) rfl rfl ?_
          refine r_getN X kc1 (j := 3) (hw.2 _ _ (by first | decide | (simp [cnt] <;> omega))) ev1 (by decide) rfl fl_X0_64 dX0_misfit_51 ?_
          refine r_aload_n X dX0_misfit_54 (i := 0) rfl rfl ?_
          refine r_get X kc0 (j := 2) (hw.2 _ _ (by first | decide | (simp [cnt] <;> omega))) ev0 (by decide) rfl fl_X0_22 dX0_misfit_55 ?_
          first | with_reducible refine r_icmpn_ge X dX0_misfit_58 (tgt := 71) (by decide) (by omega) (by omega) (fun h20 => ?_) (fun h20 => ?_) | refine r_icmp_ge X dX0_misfit_58 (tgt := 71) (by decide) (fun h20 => ?_) (fun h20 => ?_)
          · refine r_aload_n X dX0_misfit_71 (i := 1) rfl rfl ?_
            refine r_getN X kc1 (j := 2) (hw.2 _ _ (by first | decide | (simp [cnt] <;> omega))) ev1 (by decide) rfl fl_X0_65 dX0_misfit_72 ?_
            refine r_aload_n X dX0_misfit_75 (i := 0) rfl rfl ?_
            refine r_get X kc0 (j := 1) (hw.2 _ _ (by first | decide | (simp [cnt] <;> omega))) ev0 (by decide) rfl fl_X0_19 dX0_misfit_76 ?_
            first | with_reducible refine r_icmpn_ge X dX0_misfit_79 (tgt := 89) (by decide) (by omega) (by omega) (fun h21 => ?_) (fun h21 => ?_) | refine r_icmp_ge X dX0_misfit_79 (tgt := 89) (by decide) (fun h21 => ?_) (fun h21 => ?_)
            · refine r_aload_n X dX0_misfit_89 (i := 1) rfl rfl ?_
              refine r_getN X kc1 (j := 2) (hw.2 _ _ (by first | decide | (simp [cnt] <;> omega))) ev1 (by decide) rfl fl_X0_65 dX0_misfit_90 ?_
              refine r_aload_n X dX0_misfit_93 (i := 0) rfl rfl ?_
              refine r_get X kc0 (j := 1) (hw.2 _ _ (by first | decide | (simp [cnt] <;> omega))) ev0 (by decide) rfl fl_X0_19 dX0_misfit_94 ?_
              first | with_reducible refine r_icmpn_le X dX0_misfit_97 (tgt := 110) (by decide) (by omega) (by omega) (fun h22 => ?_) (fun h22 => ?_) | refine r_icmp_le X dX0_misfit_97 (tgt := 110) (by decide) (fun h22 => ?_) (fun h22 => ?_)
              · refine r_bipush X dX0_misfit_110 (v := nI 45) (by decide) ?_
                refine r_cret X dX0_misfit_112 (by first | with_reducible exact mis_c _ _ _ | rfl | assumption) (by first | decide | (simp only [rmv]; omega)) (by first | decide | (simp only [rmv]; omega)) ?_
                first | with_reducible rfl | (simp [mis, h1, h2, h18, h19, h20, h21, h22]; done) | contradiction
              · refine r_aload_n X dX0_misfit_100 (i := 0) rfl rfl ?_
                refine r_get X kc0 (j := 9) (hw.2 _ _ (by first | decide | (simp [cnt] <;> omega))) ev0 (by decide) rfl fl_X0_45 dX0_misfit_101 ?_
                first | with_reducible refine r_ifb_ne X dX0_misfit_104 (tgt := 110) (by decide) (fun h23 => ?_) (fun h23 => ?_) | refine r_if_ne X dX0_misfit_104 (tgt := 110) (by decide) (fun h23 => ?_) (fun h23 => ?_)
                · refine r_bipush X dX0_misfit_110 (v := nI 45) (by decide) ?_
                  refine r_cret X dX0_misfit_112 (by first | with_reducible exact mis_c _ _ _ | rfl | assumption) (by first | decide | (simp only [rmv]; omega)) (by first | decide | (simp only [rmv]; omega)) ?_
                  first | with_reducible rfl | (simp [mis, h1, h2, h18, h19, h20, h21, h22, h23]; done) | contradiction
                · refine r_bipush X dX0_misfit_107 (v := nI 118) (by decide) ?_
                  refine r_cret X dX0_misfit_109 (by first | with_reducible exact mis_c _ _ _ | rfl | assumption) (by first | decide | (simp only [rmv]; omega)) (by first | decide | (simp only [rmv]; omega)) ?_
                  first | with_reducible rfl | (simp [mis, h1, h2, h18, h19, h20, h21, h22, h23]; done) | contradiction
            · refine r_aload_n X dX0_misfit_82 (i := 0) rfl rfl ?_
              refine r_get X kc0 (j := 8) (hw.2 _ _ (by first | decide | (simp [cnt] <;> omega))) ev0 (by decide) rfl fl_X0_41 dX0_misfit_83 ?_
              first | with_reducible refine r_ifb_eq X dX0_misfit_86 (tgt := 107) (by decide) (fun h24 => ?_) (fun h24 => ?_) | refine r_if_eq X dX0_misfit_86 (tgt := 107) (by decide) (fun h24 => ?_) (fun h24 => ?_)
              · refine r_bipush X dX0_misfit_107 (v := nI 118) (by decide) ?_
                refine r_cret X dX0_misfit_109 (by first | with_reducible exact mis_c _ _ _ | rfl | assumption) (by first | decide | (simp only [rmv]; omega)) (by first | decide | (simp only [rmv]; omega)) ?_
                first | with_reducible rfl | (simp [mis, h1, h2, h18, h19, h20, h21, h24]; done) | contradiction
              · refine r_aload_n X dX0_misfit_89 (i := 1) rfl rfl ?_
                refine r_getN X kc1 (j := 2) (hw.2 _ _ (by first | decide | (simp [cnt] <;> omega))) ev1 (by decide) rfl fl_X0_65 dX0_misfit_90 ?_
                refine r_aload_n X dX0_misfit_93 (i := 0) rfl rfl ?_
                refine r_get X kc0 (j := 1) (hw.2 _ _ (by first | decide | (simp [cnt] <;> omega))) ev0 (by decide) rfl fl_X0_19 dX0_misfit_94 ?_
                first | with_reducible refine r_icmpn_le X dX0_misfit_97 (tgt := 110) (by decide) (by omega) (by omega) (fun h25 => ?_) (fun h25 => ?_) | refine r_icmp_le X dX0_misfit_97 (tgt := 110) (by decide) (fun h25 => ?_) (fun h25 => ?_)
                · refine r_bipush X dX0_misfit_110 (v := nI 45) (by decide) ?_
                  refine r_cret X dX0_misfit_112 (by first | with_reducible exact mis_c _ _ _ | rfl | assumption) (by first | decide | (simp only [rmv]; omega)) (by first | decide | (simp only [rmv]; omega)) ?_
                  first | with_reducible rfl | (simp [mis, h1, h2, h18, h19, h20, h21, h24, h25]; done) | contradiction
                · refine r_aload_n X dX0_misfit_100 (i := 0) rfl rfl ?_
                  refine r_get X kc0 (j := 9) (hw.2 _ _ (by first | decide | (simp [cnt] <;> omega))) ev0 (by decide) rfl fl_X0_45 dX0_misfit_101 ?_
                  first | with_reducible refine r_ifb_ne X dX0_misfit_104 (tgt := 110) (by decide) (fun h26 => ?_) (fun h26 => ?_) | refine r_if_ne X dX0_misfit_104 (tgt := 110) (by decide) (fun h26 => ?_) (fun h26 => ?_)
                  · refine r_bipush X dX0_misfit_110 (v := nI 45) (by decide) ?_
                    refine r_cret X dX0_misfit_112 (by first | with_reducible exact mis_c _ _ _ | rfl | assumption) (by first | decide | (simp only [rmv]; omega)) (by first | decide | (simp only [rmv]; omega)) ?_
                    first | with_reducible rfl | (simp [mis, h1, h2, h18, h19, h20, h21, h24, h25, h26]; done) | contradiction
                  · refine r_bipush X dX0_misfit_107 (v := nI 118) (by decide) ?_
                    refine r_cret X dX0_misfit_109 (by first | with_reducible exact mis_c _ _ _ | rfl | assumption) (by first | decide | (simp only [rmv]; omega)) (by first | decide | (simp only [rmv]; omega)) ?_
                    first | with_reducible rfl | (simp [mis, h1, h2, h18, h19, h20, h21, h24, h25, h26]; done) | contradiction
          · refine r_aload_n X dX0_misfit_61 (i := 0) rfl rfl ?_
            refine r_get X kc0 (j := 8) (hw.2 _ _ (by first | decide | (simp [cnt] <;> omega))) ev0 (by decide) rfl fl_X0_41 dX0_misfit_62 ?_
            first | with_reducible refine r_ifb_ne X dX0_misfit_65 (tgt := 71) (by decide) (fun h27 => ?_) (fun h27 => ?_) | refine r_if_ne X dX0_misfit_65 (tgt := 71) (by decide) (fun h27 => ?_) (fun h27 => ?_)
            · refine r_aload_n X dX0_misfit_71 (i := 1) rfl rfl ?_
              refine r_getN X kc1 (j := 2) (hw.2 _ _ (by first | decide | (simp [cnt] <;> omega))) ev1 (by decide) rfl fl_X0_65 dX0_misfit_72 ?_
              refine r_aload_n X dX0_misfit_75 (i := 0) rfl rfl ?_
              refine r_get X kc0 (j := 1) (hw.2 _ _ (by first | decide | (simp [cnt] <;> omega))) ev0 (by decide) rfl fl_X0_19 dX0_misfit_76 ?_
              first | with_reducible refine r_icmpn_ge X dX0_misfit_79 (tgt := 89) (by decide) (by omega) (by omega) (fun h28 => ?_) (fun h28 => ?_) | refine r_icmp_ge X dX0_misfit_79 (tgt := 89) (by decide) (fun h28 => ?_) (fun h28 => ?_)
              · refine r_aload_n X dX0_misfit_89 (i := 1) rfl rfl ?_
                refine r_getN X kc1 (j := 2) (hw.2 _ _ (by first | decide | (simp [cnt] <;> omega))) ev1 (by decide) rfl fl_X0_65 dX0_misfit_90 ?_
                refine r_aload_n X dX0_misfit_93 (i := 0) rfl rfl ?_
                refine r_get X kc0 (j := 1) (hw.2 _ _ (by first | decide | (simp [cnt] <;> omega))) ev0 (by decide) rfl fl_X0_19 dX0_misfit_94 ?_
                first | with_reducible refine r_icmpn_le X dX0_misfit_97 (tgt := 110) (by decide) (by omega) (by omega) (fun h29 => ?_) (fun h29 => ?_) | refine r_icmp_le X dX0_misfit_97 (tgt := 110) (by decide) (fun h29 => ?_) (fun h29 => ?_)
                · refine r_bipush X dX0_misfit_110 (v := nI 45) (by decide) ?_
                  refine r_cret X dX0_misfit_112 (by first | with_reducible exact mis_c _ _ _ | rfl | assumption) (by first | decide | (simp only [rmv]; omega)) (by first | decide | (simp only [rmv]; omega)) ?_
                  first | with_reducible rfl | (simp [mis, h1, h2, h18, h19, h20, h27, h28, h29]; done) | contradiction
                · refine r_aload_n X dX0_misfit_100 (i := 0) rfl rfl ?_
                  refine r_get X kc0 (j := 9) (hw.2 _ _ (by first | decide | (simp [cnt] <;> omega))) ev0 (by decide) rfl fl_X0_45 dX0_misfit_101 ?_
                  first | with_reducible refine r_ifb_ne X dX0_misfit_104 (tgt := 110) (by decide) (fun h30 => ?_) (fun h30 => ?_) | refine r_if_ne X dX0_misfit_104 (tgt := 110) (by decide) (fun h30 => ?_) (fun h30 => ?_)
                  · refine r_bipush X dX0_misfit_110 (v := nI 45) (by decide) ?_
                    refine r_cret X dX0_misfit_112 (by first | with_reducible exact mis_c _ _ _ | rfl | assumption) (by first | decide | (simp only [rmv]; omega)) (by first | decide | (simp only [rmv]; omega)) ?_
                    first | with_reducible rfl | (simp [mis, h1, h2, h18, h19, h20, h27, h28, h29, h30]; done) | contradiction
                  · refine r_bipush X dX0_misfit_107 (v := nI 118) (by decide) ?_
                    refine r_cret X dX0_misfit_109 (by first | with_reducible exact mis_c _ _ _ | rfl | assumption) (by first | decide | (simp only [rmv]; omega)) (by first | decide | (simp only [rmv]; omega)) ?_
                    first | with_reducible rfl | (simp [mis, h1, h2, h18, h19, h20, h27, h28, h29, h30]; done) | contradiction
              · refine r_aload_n X dX0_misfit_82 (i := 0) rfl rfl ?_
                refine r_get X kc0 (j := 8) (hw.2 _ _ (by first | decide | (simp [cnt] <;> omega))) ev0 (by decide) rfl fl_X0_41 dX0_misfit_83 ?_
                first | with_reducible refine r_ifb_eq X dX0_misfit_86 (tgt := 107) (by decide) (fun h31 => ?_) (fun h31 => ?_) | refine r_if_eq X dX0_misfit_86 (tgt := 107) (by decide) (fun h31 => ?_) (fun h31 => ?_)
                · refine r_bipush X dX0_misfit_107 (v := nI 118) (by decide) ?_
                  refine r_cret X dX0_misfit_109 (by first | with_reducible exact mis_c _ _ _ | rfl | assumption) (by first | decide | (simp only [rmv]; omega)) (by first | decide | (simp only [rmv]; omega)) ?_
                  first | with_reducible rfl | (simp [mis, h1, h2, h18, h19, h20, h27, h28, h31]; done) | contradiction
                · refine r_aload_n X dX0_misfit_89 (i := 1) rfl rfl ?_
                  refine r_getN X kc1 (j := 2) (hw.2 _ _ (by first | decide | (simp [cnt] <;> omega))) ev1 (by decide) rfl fl_X0_65 dX0_misfit_90 ?_
                  refine r_aload_n X dX0_misfit_93 (i := 0) rfl rfl ?_
                  refine r_get X kc0 (j := 1) (hw.2 _ _ (by first | decide | (simp [cnt] <;> omega))) ev0 (by decide) rfl fl_X0_19 dX0_misfit_94 ?_
                  first | with_reducible refine r_icmpn_le X dX0_misfit_97 (tgt := 110) (by decide) (by omega) (by omega) (fun h32 => ?_) (fun h32 => ?_) | refine r_icmp_le X dX0_misfit_97 (tgt := 110) (by decide) (fun h32 => ?_) (fun h32 => ?_)
                  · refine r_bipush X dX0_misfit_110 (v := nI 45) (by decide) ?_
                    refine r_cret X dX0_misfit_112 (by first | with_reducible exact mis_c _ _ _ | rfl | assumption) (by first | decide | (simp only [rmv]; omega)) (by first | decide | (simp only [rmv]; omega)) ?_
                    first | with_reducible rfl | (simp [mis, h1, h2, h18, h19, h20, h27, h28, h31, h32]; done) | contradiction
                  · refine r_aload_n X dX0_misfit_100 (i := 0) rfl rfl ?_
                    refine r_get X kc0 (j := 9) (hw.2 _ _ (by first | decide | (simp [cnt] <;> omega))) ev0 (by decide) rfl fl_X0_45 dX0_misfit_101 ?_
                    first | with_reducible refine r_ifb_ne X dX0_misfit_104 (tgt := 110) (by decide) (fun h33 => ?_) (fun h33 => ?_) | refine r_if_ne X dX0_misfit_104 (tgt := 110) (by decide) (fun h33 => ?_) (fun h33 => ?_)
                    · refine r_bipush X dX0_misfit_110 (v := nI 45) (by decide) ?_
                      refine r_cret X dX0_misfit_112 (by first | with_reducible exact mis_c _ _ _ | rfl | assumption) (by first | decide | (simp only [rmv]; omega)) (by first | decide | (simp only [rmv]; omega)) ?_
                      first | with_reducible rfl | (simp [mis, h1, h2, h18, h19, h20, h27, h28, h31, h32, h33]; done) | contradiction
                    · refine r_bipush X dX0_misfit_107 (v := nI 118) (by decide) ?_
                      refine r_cret X dX0_misfit_109 (by first | with_reducible exact mis_c _ _ _ | rfl | assumption) (by first | decide | (simp only [rmv]; omega)) (by first | decide | (simp only [rmv]; omega)) ?_
                      first | with_reducible rfl | (simp [mis, h1, h2, h18, h19, h20, h27, h28, h31, h32, h33]; done) | contradiction
            · refine r_bipush X dX0_misfit_68 (v := nI 101) (by decide) ?_
              refine r_cret X dX0_misfit_70 (by first | with_reducible exact mis_c _ _ _ | rfl | assumption) (by first | decide | (simp only [rmv]; omega)) (by first | decide | (simp only [rmv]; omega)) ?_
              first | with_reducible rfl | (simp [mis, h1, h2, h18, h19, h20, h27]; done) | contradiction
      · refine r_bipush X dX0_misfit_36 (v := nI 111) (by decide) ?_
        refine r_cret X dX0_misfit_38 (by first | with_reducible exact mis_c _ _ _ | rfl | assumption) (by first | decide | (simp only [rmv]; omega)) (by first | decide | (simp only [rmv]; omega)) ?_
        first | with_reducible rfl | (simp [mis, h1, h2, h18]; done) | contradiction
  · refine r_bipush X dX0_misfit_14 (v := nI 112) (by decide) ?_
    refine r_cret X dX0_misfit_16 (by first | with_reducible exact mis_c _ _ _ | rfl | assumption) (by first | decide | (simp only [rmv]; omega)) (by first | decide | (simp only [rmv]; omega)) ?_
    first | with_reducible rfl | (simp [mis, h1]; done) | contradiction

set_option maxHeartbeats 4000000 in
set_option maxRecDepth 100000 in
theorem c_X0_fits {l : Launch} {w : Wo} {M : Mem} {G : Lng} {e9 i : Nat} (hnt : l.stackTraces = false) (hw : WK w) (he : e9 < 5) (hi : i < 12) : CT l yX0_fits [Cond.code yX0_fits cX0_fits 2 (some .boolean)] 2 0 0 w [.ref (w.1 (0, e9)), .ref (w.1 (1, i))] M G (okO (some (.int (bi (fit M e9 i)))) M G) := by
  refine CT_of hnt hw.1 mw_X0_fits (by simp [Value.category]) (Nat.le_of_ble_eq_true rfl) (fun p e s m args below meth c X => ?_)
  refine r_aload_n X dX0_fits_0 (i := 1) rfl rfl ?_
  refine r_getN X kc1 (j := 0) (hw.2 _ _ (by first | decide | (simp [cnt] <;> omega))) ev1 (by decide) rfl fl_X0_51 dX0_fits_1 ?_
  first | with_reducible refine r_ifb_eq X dX0_fits_4 (tgt := 21) (by decide) (fun h1 => ?_) (fun h1 => ?_) | refine r_if_eq X dX0_fits_4 (tgt := 21) (by decide) (fun h1 => ?_) (fun h1 => ?_)
  · refine r_iconst X dX0_fits_21 (v := nI 0) (by decide) ?_
    refine r_zret X dX0_fits_22 (by first | decide | (simp only [rmv]; omega)) (by first | decide | (simp only [rmv]; omega)) (by with_reducible rfl) ?_
    first | with_reducible rfl | (simp [fit, bi_f, bi_t, h1]; done) | contradiction
  · refine r_aload_n X dX0_fits_7 (i := 0) rfl rfl ?_
    refine r_aload_n X dX0_fits_8 (i := 1) rfl rfl ?_
    refine r_callV X (c_X0_misfit hnt hw (by first | with_reducible assumption | with_reducible rfl | omega | (with_reducible (repeat (first | assumption | refine DI_chg ?_ | refine DI_clr ?_ | refine DI_scr rfl ?_)); done)) (by first | with_reducible assumption | with_reducible rfl | omega | (with_reducible (repeat (first | assumption | refine DI_chg ?_ | refine DI_clr ?_ | refine DI_scr rfl ?_)); done))) mw_X0_misfit kc0 mi_X0_misfit (hw.2 _ _ (by first | decide | (simp [cnt] <;> omega))) ev0 ml_X0_56 rfl rfl (Nat.le_of_ble_eq_true rfl) (by first | decide | (simp only [rmv]; omega)) (by first | decide | (simp only [rmv]; omega)) (by first | decide | (simp only [rmv]; omega)) (by first | decide | (simp only [rmv]; omega)) dX0_fits_9 (ko1 ?_)
    refine r_bipush X dX0_fits_12 (v := nI 45) (by decide) ?_
    first | with_reducible refine r_icmpn_ne X dX0_fits_14 (tgt := 21) (by decide) (by omega) (by omega) (fun h2 => ?_) (fun h2 => ?_) | refine r_icmp_ne X dX0_fits_14 (tgt := 21) (by decide) (fun h2 => ?_) (fun h2 => ?_)
    · refine r_iconst X dX0_fits_21 (v := nI 0) (by decide) ?_
      refine r_zret X dX0_fits_22 (by first | decide | (simp only [rmv]; omega)) (by first | decide | (simp only [rmv]; omega)) (by with_reducible rfl) ?_
      first | with_reducible rfl | (simp [fit, bi_f, bi_t, h1, h2]; done) | contradiction
    · refine r_iconst X dX0_fits_17 (v := nI 1) (by decide) ?_
      refine r_goto X dX0_fits_18 (tgt := 22) (by decide) ?_
      refine r_zret X dX0_fits_22 (by first | decide | (simp only [rmv]; omega)) (by first | decide | (simp only [rmv]; omega)) (by with_reducible rfl) ?_
      first | with_reducible rfl | (simp [fit, bi_f, bi_t, h1, h2]; done) | contradiction

end M1
