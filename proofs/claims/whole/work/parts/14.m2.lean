/-! METHODS OF AN ENTITLEMENT AND AN INSTALL -/
section M2
def ix (x : Int32) : Nat := x.toNatClampNeg
theorem ixn {n : Nat} (h : n < 2 ^ 31) : ix (nI n) = n := nI_clamp h
/-- x is a number below n -/
def Rg (x : Int32) (n : Nat) : Prop := x = nI (ix x) ∧ ix x < n
theorem Rg.of {n m : Nat} (h : n < m) (hm : m ≤ 2 ^ 31) : Rg (nI n) m := by
  have : ix (nI n) = n := ixn (by omega)
  exact ⟨by rw [this], by rw [this]; exact h⟩
theorem btw_in {a n : Nat} (h : a ≤ n) (hn : n < 2 ^ 31) : btw (nI a) (nI 0) (nI n) = true := by
  have h1 : ¬ nI a < nI 0 := nI_nlt (Nat.zero_le a) (by omega)
  have h2 : ¬ nI n < nI a := nI_nlt h (by omega)
  simp [btw, h1, h2]
theorem btw_Rg {x : Int32} {n : Nat} (h : btw x (nI 0) (nI n) = true) (hn : n < 2 ^ 31 - 1) : Rg x (n + 1) := by
  simp only [btw, Bool.and_eq_true, Bool.not_eq_true', decide_eq_false_iff_not] at h
  obtain ⟨j, hj, rfl⟩ := nI_of (x := x) h.1
  refine Rg.of ?_ (by omega)
  have := h.2
  rw [nI_ltI (by omega) hj] at this
  omega
theorem Rg.btw {x : Int32} {n : Nat} (h : Rg x (n + 1)) (hn : n < 2 ^ 31) : btw x (nI 0) (nI n) = true := by
  rw [h.1]
  exact btw_in (by have := h.2; omega) hn
/-- clearNeed, after k places -/
def zf (M : Mem) (e k : Nat) : Mem := fun c i k' => if c = 9 ∧ i = e ∧ k' < k then nI 0 else M c i k'
theorem zf0 (M : Mem) (e : Nat) : zf M e 0 = M := by funext c i k; simp [zf]
theorem zfS (M : Mem) (e k : Nat) : ms (zf M e k) 9 e k (nI 0) = zf M e (k + 1) := by
  funext c i k'
  simp only [ms, zf]
  by_cases h : c = 9 ∧ i = e
  · obtain ⟨rfl, rfl⟩ := h
    by_cases h1 : k' = k
    · subst h1; simp
    · by_cases h2 : k' < k
      · simp [h1, h2, show k' < k + 1 by omega]
      · simp [h1, h2, show ¬ k' < k + 1 by omega]
  · have h1 : ¬ (c = 9 ∧ i = e ∧ k' = k) := fun z => h ⟨z.1, z.2.1⟩
    have h2 : ¬ (c = 9 ∧ i = e ∧ k' < k) := fun z => h ⟨z.1, z.2.1⟩
    have h3 : ¬ (c = 9 ∧ i = e ∧ k' < k + 1) := fun z => h ⟨z.1, z.2.1⟩
    rw [if_neg h1, if_neg h2, if_neg h3]
def clr (M : Mem) (e : Nat) : Mem := ms (zf M e 40) 0 e 12 (nI 0)
/-- the greatest of the first p rows of a holder -/
def mx (M : Mem) (e h : Nat) : Nat → Int32
  | 0 => nI 0
  | p + 1 => if mx M e h p < M 9 e (h * 4 + p) then M 9 e (h * 4 + p) else mx M e h p
def uoh (M : Mem) (e h : Nat) : Int32 := if M 0 e 3 = nI 117 ∧ ¬ M 0 e 10 = 0 then (mx M e h 4 + nI 1) / nI 2 else mx M e h 4
def chg (M : Mem) (e i : Nat) (b : Int32) : Mem :=
  if M 0 e 3 = nI 99 then ms M 0 e 12 (M 0 e 12 + b * (if M 1 i 6 < M 0 e 6 then M 0 e 6 else M 1 i 6))
  else if M 0 e 3 = nI 100 then
    ms (ms M 9 e (ix (M 1 i 4) * 4 + ix (M 1 i 1)) (M 9 e (ix (M 1 i 4) * 4 + ix (M 1 i 1)) + b)) 0 e 12 (M 0 e 12 + (uoh (ms M 9 e (ix (M 1 i 4) * 4 + ix (M 1 i 1)) (M 9 e (ix (M 1 i 4) * 4 + ix (M 1 i 1)) + b)) e (ix (M 1 i 4)) - uoh M e (ix (M 1 i 4))))
  else
    ms (ms M 9 e (ix (M 1 i 5) * 4 + ix (M 1 i 1)) (M 9 e (ix (M 1 i 5) * 4 + ix (M 1 i 1)) + b)) 0 e 12 (M 0 e 12 + (uoh (ms M 9 e (ix (M 1 i 5) * 4 + ix (M 1 i 1)) (M 9 e (ix (M 1 i 5) * 4 + ix (M 1 i 1)) + b)) e (ix (M 1 i 5)) - uoh M e (ix (M 1 i 5))))
def mss (M : Mem) (e : Nat) : Int32 := if nI 0 < M 0 e 12 - M 0 e 4 then M 0 e 12 - M 0 e 4 else nI 0
theorem ms_o {M : Mem} {c0 i0 j : Nat} {x : Int32} {c n k : Nat} (h : ¬ (c = c0 ∧ n = i0 ∧ k = j)) : ms M c0 i0 j x c n k = M c n k := by rw [ms, if_neg h]
theorem ms_s {M : Mem} {c0 i0 j : Nat} {x : Int32} : ms M c0 i0 j x c0 i0 j = x := by simp [ms]
set_option maxHeartbeats 4000000 in
set_option maxRecDepth 100000 in
theorem c_X0_countRights {l : Launch} {w : Wo} {M : Mem} {G : Lng} {e9 : Nat} (hnt : l.stackTraces = false) (hw : WK w) (he : e9 < 5) : CT l yX0_countRights [Cond.code yX0_countRights cX0_countRights 1 (some .int)] 1 0 0 w [.ref (w.1 (0, e9))] M G (okO (some (.int ((if M 0 e9 8 = 0 then nI 0 else nI 1) + (if M 0 e9 9 = 0 then nI 0 else nI 1) + (if M 0 e9 10 = 0 then nI 0 else nI 1)))) (M) G) := by
  refine CT_of hnt hw.1 mw_X0_countRights (by simp [Value.category]) (Nat.le_of_ble_eq_true rfl) (fun p e s m args below meth c X => ?_)
  refine r_aload_n X dX0_countRights_0 (i := 0) rfl rfl ?_
  refine r_get X kc0 (j := 8) (hw.2 _ _ (by first | decide | (simp [cnt] <;> omega))) ev0 (by decide) rfl fl_X0_41 dX0_countRights_1 ?_
  first | with_reducible refine r_ifb_eq X dX0_countRights_4 (tgt := 11) (by decide) (fun h1 => ?_) (fun h1 => ?_) | refine r_if_eq X dX0_countRights_4 (tgt := 11) (by decide) (fun h1 => ?_) (fun h1 => ?_)
  · refine r_iconst X dX0_countRights_11 (v := nI 0) (by decide) ?_
    refine r_aload_n X dX0_countRights_12 (i := 0) rfl rfl ?_
    refine r_get X kc0 (j := 9) (hw.2 _ _ (by first | decide | (simp [cnt] <;> omega))) ev0 (by decide) rfl fl_X0_45 dX0_countRights_13 ?_
    first | with_reducible refine r_ifb_eq X dX0_countRights_16 (tgt := 23) (by decide) (fun h2 => ?_) (fun h2 => ?_) | refine r_if_eq X dX0_countRights_16 (tgt := 23) (by decide) (fun h2 => ?_) (fun h2 => ?_)
    · refine r_iconst X dX0_countRights_23 (v := nI 0) (by decide) ?_
      refine r_iadd X dX0_countRights_24 ?_
      refine r_aload_n X dX0_countRights_25 (i := 0) rfl rfl ?_
      refine r_get X kc0 (j := 10) (hw.2 _ _ (by first | decide | (simp [cnt] <;> omega))) ev0 (by decide) rfl fl_X0_48 dX0_countRights_26 ?_
      first | with_reducible refine r_ifb_eq X dX0_countRights_29 (tgt := 36) (by decide) (fun h3 => ?_) (fun h3 => ?_) | refine r_if_eq X dX0_countRights_29 (tgt := 36) (by decide) (fun h3 => ?_) (fun h3 => ?_)
      · refine r_iconst X dX0_countRights_36 (v := nI 0) (by decide) ?_
        refine r_iadd X dX0_countRights_37 ?_
        refine r_iret X dX0_countRights_38 (by first | decide | (simp only [rmv]; omega)) (by first | decide | (simp only [rmv]; omega)) ?_
        first | with_reducible rfl | (simp [h1, h2, h3]; done) | contradiction | with_reducible assumption
      · refine r_iconst X dX0_countRights_32 (v := nI 1) (by decide) ?_
        refine r_goto X dX0_countRights_33 (tgt := 37) (by decide) ?_
        refine r_iadd X dX0_countRights_37 ?_
        refine r_iret X dX0_countRights_38 (by first | decide | (simp only [rmv]; omega)) (by first | decide | (simp only [rmv]; omega)) ?_
        first | with_reducible rfl | (simp [h1, h2, h3]; done) | contradiction | with_reducible assumption
    · refine r_iconst X dX0_countRights_19 (v := nI 1) (by decide) ?_
      refine r_goto X dX0_countRights_20 (tgt := 24) (by decide) ?_
      refine r_iadd X dX0_countRights_24 ?_
      refine r_aload_n X dX0_countRights_25 (i := 0) rfl rfl ?_
      refine r_get X kc0 (j := 10) (hw.2 _ _ (by first | decide | (simp [cnt] <;> omega))) ev0 (by decide) rfl fl_X0_48 dX0_countRights_26 ?_
      first | with_reducible refine r_ifb_eq X dX0_countRights_29 (tgt := 36) (by decide) (fun h4 => ?_) (fun h4 => ?_) | refine r_if_eq X dX0_countRights_29 (tgt := 36) (by decide) (fun h4 => ?_) (fun h4 => ?_)
      · refine r_iconst X dX0_countRights_36 (v := nI 0) (by decide) ?_
        refine r_iadd X dX0_countRights_37 ?_
        refine r_iret X dX0_countRights_38 (by first | decide | (simp only [rmv]; omega)) (by first | decide | (simp only [rmv]; omega)) ?_
        first | with_reducible rfl | (simp [h1, h2, h4]; done) | contradiction | with_reducible assumption
      · refine r_iconst X dX0_countRights_32 (v := nI 1) (by decide) ?_
        refine r_goto X dX0_countRights_33 (tgt := 37) (by decide) ?_
        refine r_iadd X dX0_countRights_37 ?_
        refine r_iret X dX0_countRights_38 (by first | decide | (simp only [rmv]; omega)) (by first | decide | (simp only [rmv]; omega)) ?_
        first | with_reducible rfl | (simp [h1, h2, h4]; done) | contradiction | with_reducible assumption
  · refine r_iconst X dX0_countRights_7 (v := nI 1) (by decide) ?_
    refine r_goto X dX0_countRights_8 (tgt := 12) (by decide) ?_
    refine r_aload_n X dX0_countRights_12 (i := 0) rfl rfl ?_
    refine r_get X kc0 (j := 9) (hw.2 _ _ (by first | decide | (simp [cnt] <;> omega))) ev0 (by decide) rfl fl_X0_45 dX0_countRights_13 ?_
    first | with_reducible refine r_ifb_eq X dX0_countRights_16 (tgt := 23) (by decide) (fun h5 => ?_) (fun h5 => ?_) | refine r_if_eq X dX0_countRights_16 (tgt := 23) (by decide) (fun h5 => ?_) (fun h5 => ?_)
    · refine r_iconst X dX0_countRights_23 (v := nI 0) (by decide) ?_
      refine r_iadd X dX0_countRights_24 ?_
      refine r_aload_n X dX0_countRights_25 (i := 0) rfl rfl ?_
      refine r_get X kc0 (j := 10) (hw.2 _ _ (by first | decide | (simp [cnt] <;> omega))) ev0 (by decide) rfl fl_X0_48 dX0_countRights_26 ?_
      first | with_reducible refine r_ifb_eq X dX0_countRights_29 (tgt := 36) (by decide) (fun h6 => ?_) (fun h6 => ?_) | refine r_if_eq X dX0_countRights_29 (tgt := 36) (by decide) (fun h6 => ?_) (fun h6 => ?_)
      · refine r_iconst X dX0_countRights_36 (v := nI 0) (by decide) ?_
        refine r_iadd X dX0_countRights_37 ?_
        refine r_iret X dX0_countRights_38 (by first | decide | (simp only [rmv]; omega)) (by first | decide | (simp only [rmv]; omega)) ?_
        first | with_reducible rfl | (simp [h1, h5, h6]; done) | contradiction | with_reducible assumption
      · refine r_iconst X dX0_countRights_32 (v := nI 1) (by decide) ?_
        refine r_goto X dX0_countRights_33 (tgt := 37) (by decide) ?_
        refine r_iadd X dX0_countRights_37 ?_
        refine r_iret X dX0_countRights_38 (by first | decide | (simp only [rmv]; omega)) (by first | decide | (simp only [rmv]; omega)) ?_
        first | with_reducible rfl | (simp [h1, h5, h6]; done) | contradiction | with_reducible assumption
    · refine r_iconst X dX0_countRights_19 (v := nI 1) (by decide) ?_
      refine r_goto X dX0_countRights_20 (tgt := 24) (by decide) ?_
      refine r_iadd X dX0_countRights_24 ?_
      refine r_aload_n X dX0_countRights_25 (i := 0) rfl rfl ?_
      refine r_get X kc0 (j := 10) (hw.2 _ _ (by first | decide | (simp [cnt] <;> omega))) ev0 (by decide) rfl fl_X0_48 dX0_countRights_26 ?_
      first | with_reducible refine r_ifb_eq X dX0_countRights_29 (tgt := 36) (by decide) (fun h7 => ?_) (fun h7 => ?_) | refine r_if_eq X dX0_countRights_29 (tgt := 36) (by decide) (fun h7 => ?_) (fun h7 => ?_)
      · refine r_iconst X dX0_countRights_36 (v := nI 0) (by decide) ?_
        refine r_iadd X dX0_countRights_37 ?_
        refine r_iret X dX0_countRights_38 (by first | decide | (simp only [rmv]; omega)) (by first | decide | (simp only [rmv]; omega)) ?_
        first | with_reducible rfl | (simp [h1, h5, h7]; done) | contradiction | with_reducible assumption
      · refine r_iconst X dX0_countRights_32 (v := nI 1) (by decide) ?_
        refine r_goto X dX0_countRights_33 (tgt := 37) (by decide) ?_
        refine r_iadd X dX0_countRights_37 ?_
        refine r_iret X dX0_countRights_38 (by first | decide | (simp only [rmv]; omega)) (by first | decide | (simp only [rmv]; omega)) ?_
        first | with_reducible rfl | (simp [h1, h5, h7]; done) | contradiction | with_reducible assumption

set_option maxHeartbeats 4000000 in
set_option maxRecDepth 100000 in
theorem c_X0_missing {l : Launch} {w : Wo} {M : Mem} {G : Lng} {e9 : Nat} (hnt : l.stackTraces = false) (hw : WK w) (he : e9 < 5) : CT l yX0_missing [Cond.code yX0_missing cX0_missing 1 (some .int)] 1 0 0 w [.ref (w.1 (0, e9))] M G (okO (some (.int (mss M e9))) (M) G) := by
  refine CT_of hnt hw.1 mw_X0_missing (by simp [Value.category]) (Nat.le_of_ble_eq_true rfl) (fun p e s m args below meth c X => ?_)
  refine r_iconst X dX0_missing_0 (v := nI 0) (by decide) ?_
  refine r_aload_n X dX0_missing_1 (i := 0) rfl rfl ?_
  refine r_get X kc0 (j := 12) (hw.2 _ _ (by first | decide | (simp [cnt] <;> omega))) ev0 (by decide) rfl fl_X0_66 dX0_missing_2 ?_
  refine r_aload_n X dX0_missing_5 (i := 0) rfl rfl ?_
  refine r_get X kc0 (j := 4) (hw.2 _ _ (by first | decide | (simp [cnt] <;> omega))) ev0 (by decide) rfl fl_X0_29 dX0_missing_6 ?_
  refine r_isub X dX0_missing_9 ?_
  refine r_max X mx_X0_76 (by first | decide | (simp [Value.category, rmv] <;> omega)) (by first | decide | (simp only [rmv]; omega)) (by first | decide | (simp only [rmv]; omega)) (by first | decide | (simp only [rmv]; omega)) dX0_missing_10 ?_
  refine r_iret X dX0_missing_13 (by first | decide | (simp only [rmv]; omega)) (by first | decide | (simp only [rmv]; omega)) ?_
  first | with_reducible rfl | (simp [mss]; done) | contradiction | with_reducible assumption

set_option maxHeartbeats 4000000 in
set_option maxRecDepth 100000 in
theorem c_X0_missingPrice {l : Launch} {w : Wo} {M : Mem} {G : Lng} {e9 : Nat} (hnt : l.stackTraces = false) (hw : WK w) (he : e9 < 5) : CT l yX0_missingPrice [Cond.code yX0_missingPrice cX0_missingPrice 1 (some .int)] 2 0 0 w [.ref (w.1 (0, e9))] M G (okO (some (.int (M 0 e9 7 * mss M e9))) (M) G) := by
  refine CT_of hnt hw.1 mw_X0_missingPrice (by simp [Value.category]) (Nat.le_of_ble_eq_true rfl) (fun p e s m args below meth c X => ?_)
  refine r_aload_n X dX0_missingPrice_0 (i := 0) rfl rfl ?_
  refine r_get X kc0 (j := 7) (hw.2 _ _ (by first | decide | (simp [cnt] <;> omega))) ev0 (by decide) rfl fl_X0_38 dX0_missingPrice_1 ?_
  refine r_aload_n X dX0_missingPrice_4 (i := 0) rfl rfl ?_
  refine r_callV X (c_X0_missing hnt hw (by first | with_reducible assumption | with_reducible rfl | omega | (with_reducible (repeat (first | assumption | refine DI_chg ?_ | refine DI_clr ?_ | refine DI_scr rfl ?_)); done))) mw_X0_missing kc0 mi_X0_missing (hw.2 _ _ (by first | decide | (simp [cnt] <;> omega))) ev0 ml_X0_96 rfl rfl (Nat.le_of_ble_eq_true rfl) (by first | decide | (simp only [rmv]; omega)) (by first | decide | (simp only [rmv]; omega)) (by first | decide | (simp only [rmv]; omega)) (by first | decide | (simp only [rmv]; omega)) dX0_missingPrice_5 (ko1 ?_)
  refine r_imul X dX0_missingPrice_8 ?_
  refine r_iret X dX0_missingPrice_9 (by first | decide | (simp only [rmv]; omega)) (by first | decide | (simp only [rmv]; omega)) ?_
  first | with_reducible rfl | (simp []; done) | contradiction | with_reducible assumption

set_option maxHeartbeats 4000000 in
set_option maxRecDepth 100000 in
theorem lp_clearNeed {p : Program} {l : Launch} {e : Env} {s : State} {m : MethodId} {args : Array Value} {below : List Frame} {meth : Method} {c : Code} {w : Wo} {M : Mem} {G : Lng} {e9 : Nat} (hnt : l.stackTraces = false) (hw : WK w) (X : Cx p l (rmv 1 0 0) s m args meth c cX0_clearNeed 2 yX0_clearNeed.cls none [] w) (he : e9 < 5) : ∀ (n k : Nat) (M1 : Mem), k + n = 40 → M1 = zf M e9 k → VE p l e (rmv 1 0 0) s m args below meth c (0) (0) (QV w (okO none (clr M e9) G) below args s 0 0) 2 w 2 [some (.ref (w.1 (0, e9))), some (.int (nI k))] [] (ev w (M1) (G)) := by
  intro n
  induction n with
  | zero =>
    intro k M1 hk hM
    refine r_iload_n X dX0_clearNeed_2 (i := 1) rfl rfl ?_
    refine r_aload_n X dX0_clearNeed_3 (i := 0) rfl rfl ?_
    refine r_get X kc0 (j := 11) (hw.2 _ _ (by first | decide | (simp [cnt] <;> omega))) ev0 (by decide) rfl fl_X0_9 dX0_clearNeed_4 ?_
    refine r_alen X (t0 := 0) (hw.2 _ _ (by first | decide | (simp [cnt] <;> omega))) rfl (evA (by decide) (by decide)) (v := nI 40) rfl dX0_clearNeed_7 ?_
    first | with_reducible refine r_icmpn_ge X dX0_clearNeed_8 (tgt := 24) (by decide) (by omega) (by omega) (fun h1 => ?_) (fun h1 => ?_) | refine r_icmp_ge X dX0_clearNeed_8 (tgt := 24) (by decide) (fun h1 => ?_) (fun h1 => ?_)
    · refine r_aload_n X dX0_clearNeed_24 (i := 0) rfl rfl ?_
      refine r_iconst X dX0_clearNeed_25 (v := nI 0) (by decide) ?_
      refine r_put X kc0 (j := 12) (hw.2 _ _ (by first | decide | (simp [cnt] <;> omega))) ev0 (by decide) (Nat.le_of_ble_eq_true rfl) fl_X0_66 rfl rfl rfl dX0_clearNeed_26 es_0_12 ?_
      refine r_vret X dX0_clearNeed_29 (by first | decide | (simp only [rmv]; omega)) (by first | decide | (simp only [rmv]; omega)) ?_
      first | with_reducible rfl | (rw [hM, show k = 40 by omega]; rfl; done) | contradiction | with_reducible assumption
    · exact absurd h1 (by omega)
  | succ n ih =>
    intro k M1 hk hM
    refine r_iload_n X dX0_clearNeed_2 (i := 1) rfl rfl ?_
    refine r_aload_n X dX0_clearNeed_3 (i := 0) rfl rfl ?_
    refine r_get X kc0 (j := 11) (hw.2 _ _ (by first | decide | (simp [cnt] <;> omega))) ev0 (by decide) rfl fl_X0_9 dX0_clearNeed_4 ?_
    refine r_alen X (t0 := 0) (hw.2 _ _ (by first | decide | (simp [cnt] <;> omega))) rfl (evA (by decide) (by decide)) (v := nI 40) rfl dX0_clearNeed_7 ?_
    first | with_reducible refine r_icmpn_ge X dX0_clearNeed_8 (tgt := 24) (by decide) (by omega) (by omega) (fun h1 => ?_) (fun h1 => ?_) | refine r_icmp_ge X dX0_clearNeed_8 (tgt := 24) (by decide) (fun h1 => ?_) (fun h1 => ?_)
    · exact absurd h1 (by omega)
    · refine r_aload_n X dX0_clearNeed_11 (i := 0) rfl rfl ?_
      refine r_get X kc0 (j := 11) (hw.2 _ _ (by first | decide | (simp [cnt] <;> omega))) ev0 (by decide) rfl fl_X0_9 dX0_clearNeed_12 ?_
      refine r_iload_n X dX0_clearNeed_15 (i := 1) rfl rfl ?_
      refine r_iconst X dX0_clearNeed_16 (v := nI 0) (by decide) ?_
      refine r_iast X (hw.2 _ _ (by first | decide | (simp [cnt] <;> omega))) (evA (by decide) (by decide)) (by first | with_reducible rfl | with_reducible assumption | (rw [pk_mul, nI_add])) (by first | with_reducible assumption | (simp [alen] <;> omega)) (by decide) rfl dX0_clearNeed_17 (esA (by decide) (by decide)) ?_
      first | with_reducible refine r_iincn X dX0_clearNeed_18 rfl (by decide) rfl ?_ | refine r_iinc1 X dX0_clearNeed_18 rfl (by decide) rfl ?_
      refine r_goto X dX0_clearNeed_21 (tgt := 2) (by decide) ?_
      exact ih (k + 1) _ (by omega) (by rw [hM, zfS])

set_option maxHeartbeats 4000000 in
set_option maxRecDepth 100000 in
theorem c_X0_clearNeed {l : Launch} {w : Wo} {M : Mem} {G : Lng} {e9 : Nat} (hnt : l.stackTraces = false) (hw : WK w) (he : e9 < 5) : CT l yX0_clearNeed [Cond.code yX0_clearNeed cX0_clearNeed 2 none] 1 0 0 w [.ref (w.1 (0, e9))] M G (okO none (clr M e9) G) := by
  refine CT_of hnt hw.1 mw_X0_clearNeed (by simp [Value.category]) (Nat.le_of_ble_eq_true rfl) (fun p e s m args below meth c X => ?_)
  refine r_iconst X dX0_clearNeed_0 (v := nI 0) (by decide) ?_
  refine r_istore_n X dX0_clearNeed_1 (i := 1) rfl (by decide) rfl ?_
  exact lp_clearNeed hnt hw X he 40 0 M rfl (zf0 M e9).symm

set_option maxHeartbeats 4000000 in
set_option maxRecDepth 100000 in
theorem lp_uoh {p : Program} {l : Launch} {e : Env} {s : State} {m : MethodId} {args : Array Value} {below : List Frame} {meth : Method} {c : Code} {w : Wo} {M : Mem} {G : Lng} {e9 h9 : Nat} (hnt : l.stackTraces = false) (hw : WK w) (X : Cx p l (rmv 1 0 0) s m args meth c cX0_unitsOfHolder 5 yX0_unitsOfHolder.cls (some .int) [] w) (he : e9 < 5) (hh9 : h9 < 10) : ∀ (n p9 : Nat) (z4 : Option Value), p9 + n = 4 → VE p l e (rmv 1 0 0) s m args below meth c (0) (0) (QV w (okO (some (.int (uoh M e9 h9))) (M) G) below args s 0 0) 5 w 4 [some (.ref (w.1 (0, e9))), some (.int (nI h9)), some (.int (mx M e9 h9 p9)), some (.int (nI p9)), z4] [] (ev w (M) (G)) := by
  intro n
  induction n with
  | zero =>
    intro p9 z4 hk
    refine r_iload_n X dX0_unitsOfHolder_4 (i := 3) rfl rfl ?_
    refine r_iconst X dX0_unitsOfHolder_5 (v := nI 4) (by decide) ?_
    first | with_reducible refine r_icmpn_ge X dX0_unitsOfHolder_6 (tgt := 36) (by decide) (by omega) (by omega) (fun h1 => ?_) (fun h1 => ?_) | refine r_icmp_ge X dX0_unitsOfHolder_6 (tgt := 36) (by decide) (fun h1 => ?_) (fun h1 => ?_)
    · refine r_aload_n X dX0_unitsOfHolder_36 (i := 0) rfl rfl ?_
      refine r_get X kc0 (j := 3) (hw.2 _ _ (by first | decide | (simp [cnt] <;> omega))) ev0 (by decide) rfl fl_X0_25 dX0_unitsOfHolder_37 ?_
      refine r_bipush X dX0_unitsOfHolder_40 (v := nI 117) (by decide) ?_
      first | with_reducible refine r_icmpn_ne X dX0_unitsOfHolder_42 (tgt := 60) (by decide) (by omega) (by omega) (fun h2 => ?_) (fun h2 => ?_) | refine r_icmp_ne X dX0_unitsOfHolder_42 (tgt := 60) (by decide) (fun h2 => ?_) (fun h2 => ?_)
      · refine r_iload_n X dX0_unitsOfHolder_60 (i := 2) rfl rfl ?_
        refine r_iret X dX0_unitsOfHolder_61 (by first | decide | (simp only [rmv]; omega)) (by first | decide | (simp only [rmv]; omega)) ?_
        first | with_reducible rfl | ((have hp4 : p9 = 4 := by omega); subst hp4; simp [uoh, h1, h2]; done) | contradiction | with_reducible assumption
      · refine r_aload_n X dX0_unitsOfHolder_45 (i := 0) rfl rfl ?_
        refine r_get X kc0 (j := 10) (hw.2 _ _ (by first | decide | (simp [cnt] <;> omega))) ev0 (by decide) rfl fl_X0_48 dX0_unitsOfHolder_46 ?_
        first | with_reducible refine r_ifb_eq X dX0_unitsOfHolder_49 (tgt := 60) (by decide) (fun h3 => ?_) (fun h3 => ?_) | refine r_if_eq X dX0_unitsOfHolder_49 (tgt := 60) (by decide) (fun h3 => ?_) (fun h3 => ?_)
        · refine r_iload_n X dX0_unitsOfHolder_60 (i := 2) rfl rfl ?_
          refine r_iret X dX0_unitsOfHolder_61 (by first | decide | (simp only [rmv]; omega)) (by first | decide | (simp only [rmv]; omega)) ?_
          first | with_reducible rfl | ((have hp4 : p9 = 4 := by omega); subst hp4; simp [uoh, h1, h2, h3]; done) | contradiction | with_reducible assumption
        · refine r_iload_n X dX0_unitsOfHolder_52 (i := 2) rfl rfl ?_
          refine r_iconst X dX0_unitsOfHolder_53 (v := nI 1) (by decide) ?_
          refine r_iadd X dX0_unitsOfHolder_54 ?_
          refine r_iconst X dX0_unitsOfHolder_55 (v := nI 2) (by decide) ?_
          refine r_idiv X dX0_unitsOfHolder_56 (by decide) ?_
          refine r_goto X dX0_unitsOfHolder_57 (tgt := 61) (by decide) ?_
          refine r_iret X dX0_unitsOfHolder_61 (by first | decide | (simp only [rmv]; omega)) (by first | decide | (simp only [rmv]; omega)) ?_
          first | with_reducible rfl | ((have hp4 : p9 = 4 := by omega); subst hp4; simp [uoh, h1, h2, h3]; done) | contradiction | with_reducible assumption
    · exact absurd h1 (by omega)
  | succ n ih =>
    intro p9 z4 hk
    refine r_iload_n X dX0_unitsOfHolder_4 (i := 3) rfl rfl ?_
    refine r_iconst X dX0_unitsOfHolder_5 (v := nI 4) (by decide) ?_
    first | with_reducible refine r_icmpn_ge X dX0_unitsOfHolder_6 (tgt := 36) (by decide) (by omega) (by omega) (fun h1 => ?_) (fun h1 => ?_) | refine r_icmp_ge X dX0_unitsOfHolder_6 (tgt := 36) (by decide) (fun h1 => ?_) (fun h1 => ?_)
    · exact absurd h1 (by omega)
    · refine r_aload_n X dX0_unitsOfHolder_9 (i := 0) rfl rfl ?_
      refine r_get X kc0 (j := 11) (hw.2 _ _ (by first | decide | (simp [cnt] <;> omega))) ev0 (by decide) rfl fl_X0_9 dX0_unitsOfHolder_10 ?_
      refine r_iload_n X dX0_unitsOfHolder_13 (i := 1) rfl rfl ?_
      refine r_iconst X dX0_unitsOfHolder_14 (v := nI 4) (by decide) ?_
      refine r_imul X dX0_unitsOfHolder_15 ?_
      refine r_iload_n X dX0_unitsOfHolder_16 (i := 3) rfl rfl ?_
      refine r_iadd X dX0_unitsOfHolder_17 ?_
      refine r_iald X (hw.2 _ _ (by first | decide | (simp [cnt] <;> omega))) (evA (by decide) (by decide)) (by first | with_reducible rfl | with_reducible assumption | (rw [pk_mul, nI_add])) (by first | with_reducible assumption | (simp [alen] <;> omega)) (by decide) dX0_unitsOfHolder_18 ?_
      refine r_istore X dX0_unitsOfHolder_19 (by decide) rfl ?_
      refine r_iload X dX0_unitsOfHolder_21 rfl ?_
      refine r_iload_n X dX0_unitsOfHolder_23 (i := 2) rfl rfl ?_
      first | with_reducible refine r_icmpn_le X dX0_unitsOfHolder_24 (tgt := 30) (by decide) (by omega) (by omega) (fun h2 => ?_) (fun h2 => ?_) | refine r_icmp_le X dX0_unitsOfHolder_24 (tgt := 30) (by decide) (fun h2 => ?_) (fun h2 => ?_)
      · first | with_reducible refine r_iincn X dX0_unitsOfHolder_30 rfl (by decide) rfl ?_ | refine r_iinc1 X dX0_unitsOfHolder_30 rfl (by decide) rfl ?_
        refine r_goto X dX0_unitsOfHolder_33 (tgt := 4) (by decide) ?_
        have hq := fun z => ih (p9 + 1) z (by omega)
        first | (rw [show mx M e9 h9 (p9 + 1) = M 9 e9 (h9 * 4 + p9) from if_pos (Int32.not_le.mp h2)] at hq; exact hq _) | (rw [show mx M e9 h9 (p9 + 1) = mx M e9 h9 p9 from if_neg (Int32.not_lt.mpr h2)] at hq; exact hq _)
      · refine r_iload X dX0_unitsOfHolder_27 rfl ?_
        refine r_istore_n X dX0_unitsOfHolder_29 (i := 2) rfl (by decide) rfl ?_
        first | with_reducible refine r_iincn X dX0_unitsOfHolder_30 rfl (by decide) rfl ?_ | refine r_iinc1 X dX0_unitsOfHolder_30 rfl (by decide) rfl ?_
        refine r_goto X dX0_unitsOfHolder_33 (tgt := 4) (by decide) ?_
        have hq := fun z => ih (p9 + 1) z (by omega)
        first | (rw [show mx M e9 h9 (p9 + 1) = M 9 e9 (h9 * 4 + p9) from if_pos (Int32.not_le.mp h2)] at hq; exact hq _) | (rw [show mx M e9 h9 (p9 + 1) = mx M e9 h9 p9 from if_neg (Int32.not_lt.mpr h2)] at hq; exact hq _)

set_option maxHeartbeats 4000000 in
set_option maxRecDepth 100000 in
theorem c_X0_unitsOfHolder {l : Launch} {w : Wo} {M : Mem} {G : Lng} {e9 h9 : Nat} {x : Int32} (hnt : l.stackTraces = false) (hw : WK w) (he : e9 < 5) (hx : x = nI h9) (hh9 : h9 < 10) : CT l yX0_unitsOfHolder [Cond.code yX0_unitsOfHolder cX0_unitsOfHolder 5 (some .int)] 1 0 0 w [.ref (w.1 (0, e9)), .int x] M G (okO (some (.int (uoh M e9 h9))) (M) G) := by
  refine CT_of hnt hw.1 mw_X0_unitsOfHolder (by simp [Value.category]) (Nat.le_of_ble_eq_true rfl) (fun p e s m args below meth c X => ?_)
  subst hx
  refine r_iconst X dX0_unitsOfHolder_0 (v := nI 0) (by decide) ?_
  refine r_istore_n X dX0_unitsOfHolder_1 (i := 2) rfl (by decide) rfl ?_
  refine r_iconst X dX0_unitsOfHolder_2 (v := nI 0) (by decide) ?_
  refine r_istore_n X dX0_unitsOfHolder_3 (i := 3) rfl (by decide) rfl ?_
  exact lp_uoh hnt hw X he hh9 4 0 _ rfl

/-- scratch: what a search writes -/
def scr (c k : Nat) : Bool := (decide (c = 0) && decide (k = 12)) || (decide (c = 2) && decide (k = 9)) || decide (c = 6) || decide (c = 7) || decide (c = 8) || decide (c = 9)
/-- the same data -/
def Sm (M M1 : Mem) : Prop := ∀ c i k, scr c k = false → M1 c i k = M c i k
theorem Sm.rf {M : Mem} : Sm M M := fun _ _ _ _ => rfl
theorem Sm.tr {A B C : Mem} (h : Sm A B) (h2 : Sm B C) : Sm A C := fun c i k hs => (h2 c i k hs).trans (h c i k hs)
theorem Sm.sy {A B : Mem} (h : Sm A B) : Sm B A := fun c i k hs => (h c i k hs).symm
theorem Sm_ms {M M1 : Mem} {c i k : Nat} {v : Int32} (h : Sm M M1) (hc : scr c k = true) : Sm M (ms M1 c i k v) := fun c' i' k' hs => by
  rw [ms_o]
  · exact h c' i' k' hs
  · rintro ⟨rfl, -, rfl⟩
    rw [hc] at hs
    cases hs
theorem Sm_clr {M M1 : Mem} {e : Nat} (h : Sm M M1) : Sm M (clr M1 e) := by
  refine Sm_ms ?_ rfl
  intro c' i' k' hs
  rw [zf, if_neg]
  · exact h c' i' k' hs
  · rintro ⟨rfl, -⟩
    simp [scr] at hs
theorem Sm_chg {M M1 : Mem} {e i : Nat} {b : Int32} (h : Sm M M1) : Sm M (chg M1 e i b) := by
  unfold chg
  split
  · exact Sm_ms h rfl
  · split
    · exact Sm_ms (Sm_ms h rfl) rfl
    · exact Sm_ms (Sm_ms h rfl) rfl
/-- what stands between calls: numbers are in their ranges -/
def DI (M : Mem) : Prop := Rg (M 2 0 2) 13 ∧ Rg (M 2 0 3) 7 ∧ Rg (M 2 0 4) 6 ∧ ∀ i, i < 12 → Rg (M 1 i 1) 4 ∧ Rg (M 1 i 4) 10 ∧ Rg (M 1 i 5) 10
theorem DI.sm {M M1 : Mem} (h : DI M) (hs : Sm M M1) : DI M1 := by
  unfold DI
  rw [hs 2 0 2 rfl, hs 2 0 3 rfl, hs 2 0 4 rfl]
  refine ⟨h.1, h.2.1, h.2.2.1, fun i hi => ?_⟩
  rw [hs 1 i 1 rfl, hs 1 i 4 rfl, hs 1 i 5 rfl]
  exact h.2.2.2 i hi
theorem DI_chg {M : Mem} {e i : Nat} {b : Int32} (h : DI M) : DI (chg M e i b) := h.sm (Sm_chg Sm.rf)
theorem DI_clr {M : Mem} {e : Nat} (h : DI M) : DI (clr M e) := h.sm (Sm_clr Sm.rf)
theorem DI_scr {M : Mem} {c i k : Nat} {v : Int32} (hc : scr c k = true) (h : DI M) : DI (ms M c i k v) := h.sm (Sm_ms Sm.rf hc)
/-- the first n steps of a loop over a counter -/
def itn (g : Nat → Mem → Mem) : Nat → Mem → Mem
  | 0, M => M
  | n + 1, M => g n (itn g n M)
theorem Sm_itn {M M1 : Mem} {g : Nat → Mem → Mem} (hg : ∀ k A, Sm M A → Sm M (g k A)) (h : Sm M M1) : ∀ n, Sm M (itn g n M1)
  | 0 => h
  | n + 1 => hg n _ (Sm_itn hg h n)
set_option maxHeartbeats 4000000 in
set_option maxRecDepth 100000 in
theorem c_X0_changeNeed {l : Launch} {w : Wo} {M : Mem} {G : Lng} {e9 i : Nat} {b9 : Int32} (hnt : l.stackTraces = false) (hw : WK w) (he : e9 < 5) (hi : i < 12) (hD : DI M) : CT l yX0_changeNeed [Cond.code yX0_changeNeed cX0_changeNeed 5 none] 2 0 0 w [.ref (w.1 (0, e9)), .ref (w.1 (1, i)), .int b9] M G (okO none (chg M e9 i b9) G) := by
  refine CT_of hnt hw.1 mw_X0_changeNeed (by simp [Value.category]) (Nat.le_of_ble_eq_true rfl) (fun p e s m args below meth c X => ?_)
  have hp := (hD.2.2.2 i hi).1
  have hdv := (hD.2.2.2 i hi).2.1
  have huv := (hD.2.2.2 i hi).2.2
  have hp1 := hp.1
  have hp2 := hp.2
  have hd1 := hdv.1
  have hd2 := hdv.2
  have hu1 := huv.1
  have hu2 := huv.2
  refine r_aload_n X dX0_changeNeed_0 (i := 0) rfl rfl ?_
  refine r_get X kc0 (j := 3) (hw.2 _ _ (by first | decide | (simp [cnt] <;> omega))) ev0 (by decide) rfl fl_X0_25 dX0_changeNeed_1 ?_
  refine r_bipush X dX0_changeNeed_4 (v := nI 99) (by decide) ?_
  first | with_reducible refine r_icmpn_ne X dX0_changeNeed_6 (tgt := 32) (by decide) (by omega) (by omega) (fun h1 => ?_) (fun h1 => ?_) | refine r_icmp_ne X dX0_changeNeed_6 (tgt := 32) (by decide) (fun h1 => ?_) (fun h1 => ?_)
  · refine r_aload_n X dX0_changeNeed_32 (i := 0) rfl rfl ?_
    refine r_get X kc0 (j := 3) (hw.2 _ _ (by first | decide | (simp [cnt] <;> omega))) ev0 (by decide) rfl fl_X0_25 dX0_changeNeed_33 ?_
    refine r_bipush X dX0_changeNeed_36 (v := nI 100) (by decide) ?_
    first | with_reducible refine r_icmpn_ne X dX0_changeNeed_38 (tgt := 48) (by decide) (by omega) (by omega) (fun h2 => ?_) (fun h2 => ?_) | refine r_icmp_ne X dX0_changeNeed_38 (tgt := 48) (by decide) (fun h2 => ?_) (fun h2 => ?_)
    · refine r_aload_n X dX0_changeNeed_48 (i := 1) rfl rfl ?_
      refine r_getN X kc1 (j := 5) (hw.2 _ _ (by first | decide | (simp [cnt] <;> omega))) ev1 (by decide) rfl fl_X0_85 dX0_changeNeed_49 ?_
      refine r_istore_n X dX0_changeNeed_52 (i := 3) rfl (by decide) rfl ?_
      refine r_iload_n X dX0_changeNeed_53 (i := 3) rfl rfl ?_
      refine r_iconst X dX0_changeNeed_54 (v := nI 0) (by decide) ?_
      refine r_bipush X dX0_changeNeed_55 (v := nI 9) (by decide) ?_
      refine r_callSN X (c_X2_isBetween hnt hw ) mw_X2_isBetween mi_X2_isBetween ml_X0_88 rfl rfl (Nat.le_of_ble_eq_true rfl) (by first | decide | (simp only [rmv]; omega)) (by first | decide | (simp only [rmv]; omega)) (by first | decide | (simp only [rmv]; omega)) (by first | decide | (simp only [rmv]; omega)) dX0_changeNeed_57 (ko1 ?_)
      first | with_reducible refine r_ifb_eq X dX0_changeNeed_60 (tgt := 75) (by decide) (fun h3 => ?_) (fun h3 => ?_) | refine r_if_eq X dX0_changeNeed_60 (tgt := 75) (by decide) (fun h3 => ?_) (fun h3 => ?_)
      · exact absurd h3 (by first | (rw [hol]; simp [hdv.btw]) | simp [hdv.btw (n := 9), huv.btw (n := 9), hp.btw (n := 3)])
      · refine r_aload_n X dX0_changeNeed_63 (i := 1) rfl rfl ?_
        refine r_getN X kc1 (j := 1) (hw.2 _ _ (by first | decide | (simp [cnt] <;> omega))) ev1 (by decide) rfl fl_X0_60 dX0_changeNeed_64 ?_
        refine r_iconst X dX0_changeNeed_67 (v := nI 0) (by decide) ?_
        refine r_iconst X dX0_changeNeed_68 (v := nI 3) (by decide) ?_
        refine r_callSN X (c_X2_isBetween hnt hw ) mw_X2_isBetween mi_X2_isBetween ml_X0_88 rfl rfl (Nat.le_of_ble_eq_true rfl) (by first | decide | (simp only [rmv]; omega)) (by first | decide | (simp only [rmv]; omega)) (by first | decide | (simp only [rmv]; omega)) (by first | decide | (simp only [rmv]; omega)) dX0_changeNeed_69 (ko1 ?_)
        first | with_reducible refine r_ifb_ne X dX0_changeNeed_72 (tgt := 76) (by decide) (fun h4 => ?_) (fun h4 => ?_) | refine r_if_ne X dX0_changeNeed_72 (tgt := 76) (by decide) (fun h4 => ?_) (fun h4 => ?_)
        · refine r_aload_n X dX0_changeNeed_76 (i := 0) rfl rfl ?_
          refine r_iload_n X dX0_changeNeed_77 (i := 3) rfl rfl ?_
          refine r_callV X (c_X0_unitsOfHolder hnt hw (by first | with_reducible assumption | with_reducible rfl | omega | (with_reducible (repeat (first | assumption | refine DI_chg ?_ | refine DI_clr ?_ | refine DI_scr rfl ?_)); done)) (by first | with_reducible assumption | with_reducible rfl | omega | (with_reducible (repeat (first | assumption | refine DI_chg ?_ | refine DI_clr ?_ | refine DI_scr rfl ?_)); done)) (by first | with_reducible assumption | with_reducible rfl | omega | (with_reducible (repeat (first | assumption | refine DI_chg ?_ | refine DI_clr ?_ | refine DI_scr rfl ?_)); done))) mw_X0_unitsOfHolder kc0 mi_X0_unitsOfHolder (hw.2 _ _ (by first | decide | (simp [cnt] <;> omega))) ev0 ml_X0_92 rfl rfl (Nat.le_of_ble_eq_true rfl) (by first | decide | (simp only [rmv]; omega)) (by first | decide | (simp only [rmv]; omega)) (by first | decide | (simp only [rmv]; omega)) (by first | decide | (simp only [rmv]; omega)) dX0_changeNeed_78 (ko1 ?_)
          refine r_istore X dX0_changeNeed_81 (by decide) rfl ?_
          refine r_aload_n X dX0_changeNeed_83 (i := 0) rfl rfl ?_
          refine r_get X kc0 (j := 11) (hw.2 _ _ (by first | decide | (simp [cnt] <;> omega))) ev0 (by decide) rfl fl_X0_9 dX0_changeNeed_84 ?_
          refine r_iload_n X dX0_changeNeed_87 (i := 3) rfl rfl ?_
          refine r_iconst X dX0_changeNeed_88 (v := nI 4) (by decide) ?_
          refine r_imul X dX0_changeNeed_89 ?_
          refine r_aload_n X dX0_changeNeed_90 (i := 1) rfl rfl ?_
          refine r_getN X kc1 (j := 1) (hw.2 _ _ (by first | decide | (simp [cnt] <;> omega))) ev1 (by decide) rfl fl_X0_60 dX0_changeNeed_91 ?_
          refine r_iadd X dX0_changeNeed_94 ?_
          refine r_dup2 X dX0_changeNeed_95 rfl rfl ?_
          refine r_iald X (hw.2 _ _ (by first | decide | (simp [cnt] <;> omega))) (evA (by decide) (by decide)) (by first | with_reducible rfl | with_reducible assumption | (rw [pk_mul, nI_add]) | (rw [hd1, hp1, pk_mul, nI_add]) | (rw [hu1, hp1, pk_mul, nI_add])) (by first | with_reducible assumption | (simp [alen] <;> omega)) (by decide) dX0_changeNeed_96 ?_
          refine r_iload_n X dX0_changeNeed_97 (i := 2) rfl rfl ?_
          refine r_iadd X dX0_changeNeed_98 ?_
          refine r_iast X (hw.2 _ _ (by first | decide | (simp [cnt] <;> omega))) (evA (by decide) (by decide)) (by first | with_reducible rfl | with_reducible assumption | (rw [pk_mul, nI_add]) | (rw [hd1, hp1, pk_mul, nI_add]) | (rw [hu1, hp1, pk_mul, nI_add])) (by first | with_reducible assumption | (simp [alen] <;> omega)) (by decide) rfl dX0_changeNeed_99 (esA (by decide) (by decide)) ?_
          refine r_aload_n X dX0_changeNeed_100 (i := 0) rfl rfl ?_
          refine r_dup X dX0_changeNeed_101 rfl ?_
          refine r_get X kc0 (j := 12) (hw.2 _ _ (by first | decide | (simp [cnt] <;> omega))) ev0 (by decide) rfl fl_X0_66 dX0_changeNeed_102 ?_
          refine r_aload_n X dX0_changeNeed_105 (i := 0) rfl rfl ?_
          refine r_iload_n X dX0_changeNeed_106 (i := 3) rfl rfl ?_
          refine r_callV X (c_X0_unitsOfHolder hnt hw (by first | with_reducible assumption | with_reducible rfl | omega | (with_reducible (repeat (first | assumption | refine DI_chg ?_ | refine DI_clr ?_ | refine DI_scr rfl ?_)); done)) (by first | with_reducible assumption | with_reducible rfl | omega | (with_reducible (repeat (first | assumption | refine DI_chg ?_ | refine DI_clr ?_ | refine DI_scr rfl ?_)); done)) (by first | with_reducible assumption | with_reducible rfl | omega | (with_reducible (repeat (first | assumption | refine DI_chg ?_ | refine DI_clr ?_ | refine DI_scr rfl ?_)); done))) mw_X0_unitsOfHolder kc0 mi_X0_unitsOfHolder (hw.2 _ _ (by first | decide | (simp [cnt] <;> omega))) ev0 ml_X0_92 rfl rfl (Nat.le_of_ble_eq_true rfl) (by first | decide | (simp only [rmv]; omega)) (by first | decide | (simp only [rmv]; omega)) (by first | decide | (simp only [rmv]; omega)) (by first | decide | (simp only [rmv]; omega)) dX0_changeNeed_107 (ko1 ?_)
          refine r_iload X dX0_changeNeed_110 rfl ?_
          refine r_isub X dX0_changeNeed_112 ?_
          refine r_iadd X dX0_changeNeed_113 ?_
          refine r_put X kc0 (j := 12) (hw.2 _ _ (by first | decide | (simp [cnt] <;> omega))) ev0 (by decide) (Nat.le_of_ble_eq_true rfl) fl_X0_66 rfl rfl rfl dX0_changeNeed_114 es_0_12 ?_
          refine r_vret X dX0_changeNeed_117 (by first | decide | (simp only [rmv]; omega)) (by first | decide | (simp only [rmv]; omega)) ?_
          first | with_reducible rfl | (simp [chg, show ¬ (nI 100 = nI 99) from by decide, ms_o, h1, h2, h3, h4]; done) | contradiction | with_reducible assumption
        · exact absurd h4 (by first | (rw [hol]; simp [hdv.btw]) | simp [hdv.btw (n := 9), huv.btw (n := 9), hp.btw (n := 3)])
    · refine r_aload_n X dX0_changeNeed_41 (i := 1) rfl rfl ?_
      refine r_getN X kc1 (j := 4) (hw.2 _ _ (by first | decide | (simp [cnt] <;> omega))) ev1 (by decide) rfl fl_X0_82 dX0_changeNeed_42 ?_
      refine r_goto X dX0_changeNeed_45 (tgt := 52) (by decide) ?_
      refine r_istore_n X dX0_changeNeed_52 (i := 3) rfl (by decide) rfl ?_
      refine r_iload_n X dX0_changeNeed_53 (i := 3) rfl rfl ?_
      refine r_iconst X dX0_changeNeed_54 (v := nI 0) (by decide) ?_
      refine r_bipush X dX0_changeNeed_55 (v := nI 9) (by decide) ?_
      refine r_callSN X (c_X2_isBetween hnt hw ) mw_X2_isBetween mi_X2_isBetween ml_X0_88 rfl rfl (Nat.le_of_ble_eq_true rfl) (by first | decide | (simp only [rmv]; omega)) (by first | decide | (simp only [rmv]; omega)) (by first | decide | (simp only [rmv]; omega)) (by first | decide | (simp only [rmv]; omega)) dX0_changeNeed_57 (ko1 ?_)
      first | with_reducible refine r_ifb_eq X dX0_changeNeed_60 (tgt := 75) (by decide) (fun h5 => ?_) (fun h5 => ?_) | refine r_if_eq X dX0_changeNeed_60 (tgt := 75) (by decide) (fun h5 => ?_) (fun h5 => ?_)
      · exact absurd h5 (by first | (rw [hol]; simp [hdv.btw]) | simp [hdv.btw (n := 9), huv.btw (n := 9), hp.btw (n := 3)])
      · refine r_aload_n X dX0_changeNeed_63 (i := 1) rfl rfl ?_
        refine r_getN X kc1 (j := 1) (hw.2 _ _ (by first | decide | (simp [cnt] <;> omega))) ev1 (by decide) rfl fl_X0_60 dX0_changeNeed_64 ?_
        refine r_iconst X dX0_changeNeed_67 (v := nI 0) (by decide) ?_
        refine r_iconst X dX0_changeNeed_68 (v := nI 3) (by decide) ?_
        refine r_callSN X (c_X2_isBetween hnt hw ) mw_X2_isBetween mi_X2_isBetween ml_X0_88 rfl rfl (Nat.le_of_ble_eq_true rfl) (by first | decide | (simp only [rmv]; omega)) (by first | decide | (simp only [rmv]; omega)) (by first | decide | (simp only [rmv]; omega)) (by first | decide | (simp only [rmv]; omega)) dX0_changeNeed_69 (ko1 ?_)
        first | with_reducible refine r_ifb_ne X dX0_changeNeed_72 (tgt := 76) (by decide) (fun h6 => ?_) (fun h6 => ?_) | refine r_if_ne X dX0_changeNeed_72 (tgt := 76) (by decide) (fun h6 => ?_) (fun h6 => ?_)
        · refine r_aload_n X dX0_changeNeed_76 (i := 0) rfl rfl ?_
          refine r_iload_n X dX0_changeNeed_77 (i := 3) rfl rfl ?_
          refine r_callV X (c_X0_unitsOfHolder hnt hw (by first | with_reducible assumption | with_reducible rfl | omega | (with_reducible (repeat (first | assumption | refine DI_chg ?_ | refine DI_clr ?_ | refine DI_scr rfl ?_)); done)) (by first | with_reducible assumption | with_reducible rfl | omega | (with_reducible (repeat (first | assumption | refine DI_chg ?_ | refine DI_clr ?_ | refine DI_scr rfl ?_)); done)) (by first | with_reducible assumption | with_reducible rfl | omega | (with_reducible (repeat (first | assumption | refine DI_chg ?_ | refine DI_clr ?_ | refine DI_scr rfl ?_)); done))) mw_X0_unitsOfHolder kc0 mi_X0_unitsOfHolder (hw.2 _ _ (by first | decide | (simp [cnt] <;> omega))) ev0 ml_X0_92 rfl rfl (Nat.le_of_ble_eq_true rfl) (by first | decide | (simp only [rmv]; omega)) (by first | decide | (simp only [rmv]; omega)) (by first | decide | (simp only [rmv]; omega)) (by first | decide | (simp only [rmv]; omega)) dX0_changeNeed_78 (ko1 ?_)
          refine r_istore X dX0_changeNeed_81 (by decide) rfl ?_
          refine r_aload_n X dX0_changeNeed_83 (i := 0) rfl rfl ?_
          refine r_get X kc0 (j := 11) (hw.2 _ _ (by first | decide | (simp [cnt] <;> omega))) ev0 (by decide) rfl fl_X0_9 dX0_changeNeed_84 ?_
          refine r_iload_n X dX0_changeNeed_87 (i := 3) rfl rfl ?_
          refine r_iconst X dX0_changeNeed_88 (v := nI 4) (by decide) ?_
          refine r_imul X dX0_changeNeed_89 ?_
          refine r_aload_n X dX0_changeNeed_90 (i := 1) rfl rfl ?_
          refine r_getN X kc1 (j := 1) (hw.2 _ _ (by first | decide | (simp [cnt] <;> omega))) ev1 (by decide) rfl fl_X0_60 dX0_changeNeed_91 ?_
          refine r_iadd X dX0_changeNeed_94 ?_
          refine r_dup2 X dX0_changeNeed_95 rfl rfl ?_
          refine r_iald X (hw.2 _ _ (by first | decide | (simp [cnt] <;> omega))) (evA (by decide) (by decide)) (by first | with_reducible rfl | with_reducible assumption | (rw [pk_mul, nI_add]) | (rw [hd1, hp1, pk_mul, nI_add]) | (rw [hu1, hp1, pk_mul, nI_add])) (by first | with_reducible assumption | (simp [alen] <;> omega)) (by decide) dX0_changeNeed_96 ?_
          refine r_iload_n X dX0_changeNeed_97 (i := 2) rfl rfl ?_
          refine r_iadd X dX0_changeNeed_98 ?_
          refine r_iast X (hw.2 _ _ (by first | decide | (simp [cnt] <;> omega))) (evA (by decide) (by decide)) (by first | with_reducible rfl | with_reducible assumption | (rw [pk_mul, nI_add]) | (rw [hd1, hp1, pk_mul, nI_add]) | (rw [hu1, hp1, pk_mul, nI_add])) (by first | with_reducible assumption | (simp [alen] <;> omega)) (by decide) rfl dX0_changeNeed_99 (esA (by decide) (by decide)) ?_
          refine r_aload_n X dX0_changeNeed_100 (i := 0) rfl rfl ?_
          refine r_dup X dX0_changeNeed_101 rfl ?_
          refine r_get X kc0 (j := 12) (hw.2 _ _ (by first | decide | (simp [cnt] <;> omega))) ev0 (by decide) rfl fl_X0_66 dX0_changeNeed_102 ?_
          refine r_aload_n X dX0_changeNeed_105 (i := 0) rfl rfl ?_
          refine r_iload_n X dX0_changeNeed_106 (i := 3) rfl rfl ?_
          refine r_callV X (c_X0_unitsOfHolder hnt hw (by first | with_reducible assumption | with_reducible rfl | omega | (with_reducible (repeat (first | assumption | refine DI_chg ?_ | refine DI_clr ?_ | refine DI_scr rfl ?_)); done)) (by first | with_reducible assumption | with_reducible rfl | omega | (with_reducible (repeat (first | assumption | refine DI_chg ?_ | refine DI_clr ?_ | refine DI_scr rfl ?_)); done)) (by first | with_reducible assumption | with_reducible rfl | omega | (with_reducible (repeat (first | assumption | refine DI_chg ?_ | refine DI_clr ?_ | refine DI_scr rfl ?_)); done))) mw_X0_unitsOfHolder kc0 mi_X0_unitsOfHolder (hw.2 _ _ (by first | decide | (simp [cnt] <;> omega))) ev0 ml_X0_92 rfl rfl (Nat.le_of_ble_eq_true rfl) (by first | decide | (simp only [rmv]; omega)) (by first | decide | (simp only [rmv]; omega)) (by first | decide | (simp only [rmv]; omega)) (by first | decide | (simp only [rmv]; omega)) dX0_changeNeed_107 (ko1 ?_)
          refine r_iload X dX0_changeNeed_110 rfl ?_
          refine r_isub X dX0_changeNeed_112 ?_
          refine r_iadd X dX0_changeNeed_113 ?_
          refine r_put X kc0 (j := 12) (hw.2 _ _ (by first | decide | (simp [cnt] <;> omega))) ev0 (by decide) (Nat.le_of_ble_eq_true rfl) fl_X0_66 rfl rfl rfl dX0_changeNeed_114 es_0_12 ?_
          refine r_vret X dX0_changeNeed_117 (by first | decide | (simp only [rmv]; omega)) (by first | decide | (simp only [rmv]; omega)) ?_
          first | with_reducible rfl | (simp [chg, show ¬ (nI 100 = nI 99) from by decide, ms_o, h1, h2, h5, h6]; done) | contradiction | with_reducible assumption
        · exact absurd h6 (by first | (rw [hol]; simp [hdv.btw]) | simp [hdv.btw (n := 9), huv.btw (n := 9), hp.btw (n := 3)])
  · refine r_aload_n X dX0_changeNeed_9 (i := 0) rfl rfl ?_
    refine r_dup X dX0_changeNeed_10 rfl ?_
    refine r_get X kc0 (j := 12) (hw.2 _ _ (by first | decide | (simp [cnt] <;> omega))) ev0 (by decide) rfl fl_X0_66 dX0_changeNeed_11 ?_
    refine r_iload_n X dX0_changeNeed_14 (i := 2) rfl rfl ?_
    refine r_aload_n X dX0_changeNeed_15 (i := 1) rfl rfl ?_
    refine r_getN X kc1 (j := 6) (hw.2 _ _ (by first | decide | (simp [cnt] <;> omega))) ev1 (by decide) rfl fl_X0_73 dX0_changeNeed_16 ?_
    refine r_aload_n X dX0_changeNeed_19 (i := 0) rfl rfl ?_
    refine r_get X kc0 (j := 6) (hw.2 _ _ (by first | decide | (simp [cnt] <;> omega))) ev0 (by decide) rfl fl_X0_35 dX0_changeNeed_20 ?_
    refine r_max X mx_X0_76 (by first | decide | (simp [Value.category, rmv] <;> omega)) (by first | decide | (simp only [rmv]; omega)) (by first | decide | (simp only [rmv]; omega)) (by first | decide | (simp only [rmv]; omega)) dX0_changeNeed_23 ?_
    refine r_imul X dX0_changeNeed_26 ?_
    refine r_iadd X dX0_changeNeed_27 ?_
    refine r_put X kc0 (j := 12) (hw.2 _ _ (by first | decide | (simp [cnt] <;> omega))) ev0 (by decide) (Nat.le_of_ble_eq_true rfl) fl_X0_66 rfl rfl rfl dX0_changeNeed_28 es_0_12 ?_
    refine r_vret X dX0_changeNeed_31 (by first | decide | (simp only [rmv]; omega)) (by first | decide | (simp only [rmv]; omega)) ?_
    first | with_reducible rfl | (simp [chg, show ¬ (nI 100 = nI 99) from by decide, ms_o, h1]; done) | contradiction | with_reducible assumption

set_option maxHeartbeats 4000000 in
set_option maxRecDepth 100000 in
theorem c_X0_serve {l : Launch} {w : Wo} {M : Mem} {G : Lng} {e9 i : Nat} (hnt : l.stackTraces = false) (hw : WK w) (he : e9 < 5) (hi : i < 12) (hD : DI M) : CT l yX0_serve [Cond.code yX0_serve cX0_serve 2 none] 3 0 0 w [.ref (w.1 (0, e9)), .ref (w.1 (1, i))] M G (okO none (chg M e9 i (nI 1)) G) := by
  refine CT_of hnt hw.1 mw_X0_serve (by simp [Value.category]) (Nat.le_of_ble_eq_true rfl) (fun p e s m args below meth c X => ?_)
  refine r_aload_n X dX0_serve_0 (i := 0) rfl rfl ?_
  refine r_aload_n X dX0_serve_1 (i := 1) rfl rfl ?_
  refine r_iconst X dX0_serve_2 (v := nI 1) (by decide) ?_
  refine r_callV X (c_X0_changeNeed hnt hw (by first | with_reducible assumption | with_reducible rfl | omega | (with_reducible (repeat (first | assumption | refine DI_chg ?_ | refine DI_clr ?_ | refine DI_scr rfl ?_)); done)) (by first | with_reducible assumption | with_reducible rfl | omega | (with_reducible (repeat (first | assumption | refine DI_chg ?_ | refine DI_clr ?_ | refine DI_scr rfl ?_)); done)) (by first | with_reducible assumption | with_reducible rfl | omega | (with_reducible (repeat (first | assumption | refine DI_chg ?_ | refine DI_clr ?_ | refine DI_scr rfl ?_)); done))) mw_X0_changeNeed kc0 mi_X0_changeNeed (hw.2 _ _ (by first | decide | (simp [cnt] <;> omega))) ev0 ml_X0_69 rfl rfl (Nat.le_of_ble_eq_true rfl) (by first | decide | (simp only [rmv]; omega)) (by first | decide | (simp only [rmv]; omega)) (by first | decide | (simp only [rmv]; omega)) (by first | decide | (simp only [rmv]; omega)) dX0_serve_3 (ko0 ?_)
  refine r_vret X dX0_serve_6 (by first | decide | (simp only [rmv]; omega)) (by first | decide | (simp only [rmv]; omega)) ?_
  first | with_reducible rfl | (simp []; done) | contradiction | with_reducible assumption

set_option maxHeartbeats 4000000 in
set_option maxRecDepth 100000 in
theorem c_X0_release {l : Launch} {w : Wo} {M : Mem} {G : Lng} {e9 i : Nat} (hnt : l.stackTraces = false) (hw : WK w) (he : e9 < 5) (hi : i < 12) (hD : DI M) : CT l yX0_release [Cond.code yX0_release cX0_release 2 none] 3 0 0 w [.ref (w.1 (0, e9)), .ref (w.1 (1, i))] M G (okO none (chg M e9 i (-1)) G) := by
  refine CT_of hnt hw.1 mw_X0_release (by simp [Value.category]) (Nat.le_of_ble_eq_true rfl) (fun p e s m args below meth c X => ?_)
  refine r_aload_n X dX0_release_0 (i := 0) rfl rfl ?_
  refine r_aload_n X dX0_release_1 (i := 1) rfl rfl ?_
  refine r_iconst X dX0_release_2 (v := -1) (by decide) ?_
  refine r_callV X (c_X0_changeNeed hnt hw (by first | with_reducible assumption | with_reducible rfl | omega | (with_reducible (repeat (first | assumption | refine DI_chg ?_ | refine DI_clr ?_ | refine DI_scr rfl ?_)); done)) (by first | with_reducible assumption | with_reducible rfl | omega | (with_reducible (repeat (first | assumption | refine DI_chg ?_ | refine DI_clr ?_ | refine DI_scr rfl ?_)); done)) (by first | with_reducible assumption | with_reducible rfl | omega | (with_reducible (repeat (first | assumption | refine DI_chg ?_ | refine DI_clr ?_ | refine DI_scr rfl ?_)); done))) mw_X0_changeNeed kc0 mi_X0_changeNeed (hw.2 _ _ (by first | decide | (simp [cnt] <;> omega))) ev0 ml_X0_69 rfl rfl (Nat.le_of_ble_eq_true rfl) (by first | decide | (simp only [rmv]; omega)) (by first | decide | (simp only [rmv]; omega)) (by first | decide | (simp only [rmv]; omega)) (by first | decide | (simp only [rmv]; omega)) dX0_release_3 (ko0 ?_)
  refine r_vret X dX0_release_6 (by first | decide | (simp only [rmv]; omega)) (by first | decide | (simp only [rmv]; omega)) ?_
  first | with_reducible rfl | (simp []; done) | contradiction | with_reducible assumption

end M2
