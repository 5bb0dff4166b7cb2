/-! THE LAW'S BODY: the other cases -/
section Cases2
variable {p : Program} {l : Launch} {e : Env} {s : State} {m : MethodId} {args : Array Value} {below : List Frame} {meth : Method} {c : Code} {cells slots : Nat} {Q : State → Prop} {hh : List (Nat × Nat × Nat × Nat)} {w : Wo} {b L : Nat} {xs : Nat → Int32} {M : Mem} {G : Lng} {j : Nat}
set_option maxHeartbeats 4000000 in
set_option maxRecDepth 100000 in
theorem lc_installs (hX : LX p l s m args meth c hh w b L xs) (hI : INV M) (hG : G (2, 0) = G (3, 0)) (hcs : cells + 16 ≤ room_1.cells) (hss : slots + 96 ≤ room_1.slots) (K : KK p l e s m args below meth c cells slots Q w b j) : VE p l e room_1 s m args below meth c cells slots Q 8 w 592 (lvL w b (nI (8 * j)) none none) [] (ev w M G) := by
  obtain ⟨mn, en, hI⟩ := hI
  have hw : WK w := hX.2.1
  have hnt : l.stackTraces = false := hX.2.2.1
  refine r_aload_n hX.1 dL_law_592 (i := 1) rfl rfl ?_
  refine r_callV hX.1 (c_X2_installs hnt hw) mw_X2_installs kc2 mi_X2_installs (hw.2 _ _ (by decide)) ev2 ml_L_132 rfl rfl (Nat.le_of_ble_eq_true rfl) (Nat.le_of_ble_eq_true rfl) (Nat.le_of_ble_eq_true rfl) (by omega) (by omega) dL_law_593 (ko1 ?_)
  refine r_aload_n hX.1 dL_law_596 (i := 2) rfl rfl ?_
  refine r_callV hX.1 (c_X3_installs hnt hw) mw_X3_installs kc3 mi_X3_installs (hw.2 _ _ (by decide)) ev3 ml_L_135 rfl rfl (Nat.le_of_ble_eq_true rfl) (Nat.le_of_ble_eq_true rfl) (Nat.le_of_ble_eq_true rfl) (by omega) (by omega) dL_law_597 (ko1 ?_)
  refine r_icmp_eq hX.1 dL_law_600 (tgt := 1935) (by decide) (fun _ => VE_widen (by omega) (by omega) (K M G _ _ ⟨mn, en, hI⟩ hG)) (fun h => absurd hI.RS.2.1.1.symm h)
set_option maxHeartbeats 4000000 in
set_option maxRecDepth 100000 in
theorem lc_isThere (hX : LX p l s m args meth c hh w b L xs) (hI : INV M) (hG : G (2, 0) = G (3, 0)) (hj : 8 * j + 7 < L) (hcs : cells + 16 ≤ room_1.cells) (hss : slots + 96 ≤ room_1.slots) (K : KK p l e s m args below meth c cells slots Q w b j) : VE p l e room_1 s m args below meth c cells slots Q 8 w 605 (lvL w b (nI (8 * j)) none none) [] (ev w M G) := by
  obtain ⟨mn, en, hI⟩ := hI
  have hw : WK w := hX.2.1
  have hnt : l.stackTraces = false := hX.2.2.1
  refine r_aload_n hX.1 dL_law_605 (i := 1) rfl rfl ?_
  refine ld hX (k := 1) (q := 610) (by omega) dL_law_606 dL_law_607 (fun _ h => r_iconst hX.1 dL_law_609 (v := nI 1) (by decide) h) dL_law_610 dL_law_611 ?_
  refine r_callV hX.1 (c_X2_isThere hnt hw) mw_X2_isThere kc2 mi_X2_isThere (hw.2 _ _ (by decide)) ev2 ml_L_136 rfl rfl (Nat.le_of_ble_eq_true rfl) (Nat.le_of_ble_eq_true rfl) (Nat.le_of_ble_eq_true rfl) (by omega) (by omega) dL_law_612 (ko1 ?_)
  refine r_aload_n hX.1 dL_law_615 (i := 2) rfl rfl ?_
  refine ld hX (k := 1) (q := 620) (by omega) dL_law_616 dL_law_617 (fun _ h => r_iconst hX.1 dL_law_619 (v := nI 1) (by decide) h) dL_law_620 dL_law_621 ?_
  refine r_callV hX.1 (c_X3_isThere hnt hw hI.DM) mw_X3_isThere kc3 mi_X3_isThere (hw.2 _ _ (by decide)) ev3 ml_L_140 rfl rfl (Nat.le_of_ble_eq_true rfl) (Nat.le_of_ble_eq_true rfl) (Nat.le_of_ble_eq_true rfl) (by omega) (by omega) dL_law_622 (ko1 ?_)
  refine r_icmp_eq hX.1 dL_law_625 (tgt := 1935) (by decide) (fun _ => VE_widen (by omega) (by omega) (K M G _ _ ⟨mn, en, hI⟩ hG)) (fun h => absurd (by rw [thr_n hI.RS, Bool.not_not]) h)
set_option maxHeartbeats 4000000 in
set_option maxRecDepth 100000 in
theorem lc_covered (hX : LX p l s m args meth c hh w b L xs) (hI : INV M) (hG : G (2, 0) = G (3, 0)) (hcs : cells + 16 ≤ room_1.cells) (hss : slots + 96 ≤ room_1.slots) (K : KK p l e s m args below meth c cells slots Q w b j) : VE p l e room_1 s m args below meth c cells slots Q 8 w 1386 (lvL w b (nI (8 * j)) none none) [] (ev w M G) := by
  obtain ⟨mn, en, hI⟩ := hI
  have hw : WK w := hX.2.1
  have hnt : l.stackTraces = false := hX.2.2.1
  obtain ⟨h1, hD1, hI2⟩ := ag_covered hI
  refine r_aload_n hX.1 dL_law_1386 (i := 1) rfl rfl ?_
  refine r_callV hX.1 (c_X2_covered hnt hw hI.DI) mw_X2_covered kc2 mi_X2_covered (hw.2 _ _ (by decide)) ev2 ml_L_173 rfl rfl (Nat.le_of_ble_eq_true rfl) (Nat.le_of_ble_eq_true rfl) (Nat.le_of_ble_eq_true rfl) (by omega) (by omega) dL_law_1387 (ko1 ?_)
  refine r_aload_n hX.1 dL_law_1390 (i := 2) rfl rfl ?_
  refine r_callV hX.1 (c_X3_covered hnt hw hD1) mw_X3_covered kc3 mi_X3_covered (hw.2 _ _ (by decide)) ev3 ml_L_176 rfl rfl (Nat.le_of_ble_eq_true rfl) (Nat.le_of_ble_eq_true rfl) (Nat.le_of_ble_eq_true rfl) (by omega) (by omega) dL_law_1391 (ko1 ?_)
  refine r_icmp_eq hX.1 dL_law_1394 (tgt := 1935) (by decide) (fun _ => VE_widen (by omega) (by omega) (K (coM (fcM M)) G _ _ hI2 hG)) (fun h => absurd h1 h)
set_option maxHeartbeats 4000000 in
set_option maxRecDepth 100000 in
theorem lc_spent (hX : LX p l s m args meth c hh w b L xs) (hI : INV M) (hG : G (2, 0) = G (3, 0)) (hcs : cells + 16 ≤ room_1.cells) (hss : slots + 96 ≤ room_1.slots) (K : KK p l e s m args below meth c cells slots Q w b j) : VE p l e room_1 s m args below meth c cells slots Q 8 w 1855 (lvL w b (nI (8 * j)) none none) [] (ev w M G) := by
  have hw : WK w := hX.2.1
  have hnt : l.stackTraces = false := hX.2.2.1
  refine r_aload_n hX.1 dL_law_1855 (i := 1) rfl rfl ?_
  refine r_callV hX.1 (c_X2_spent hnt hw) mw_X2_spent kc2 mi_X2_spent (hw.2 _ _ (by decide)) ev2 ml_L_205 rfl rfl (Nat.le_of_ble_eq_true rfl) (Nat.le_of_ble_eq_true rfl) (Nat.le_of_ble_eq_true rfl) (by omega) (by omega) dL_law_1856 (ko1 ?_)
  refine r_aload_n hX.1 dL_law_1859 (i := 2) rfl rfl ?_
  refine r_callV hX.1 (c_X3_spent hnt hw) mw_X3_spent kc3 mi_X3_spent (hw.2 _ _ (by decide)) ev3 ml_L_209 rfl rfl (Nat.le_of_ble_eq_true rfl) (Nat.le_of_ble_eq_true rfl) (Nat.le_of_ble_eq_true rfl) (by omega) (by omega) dL_law_1860 (ko1 ?_)
  refine r_lcmp hX.1 dL_law_1863 ?_
  refine r_if_eq hX.1 dL_law_1864 (tgt := 1935) (by decide) (fun _ => VE_widen (by omega) (by omega) (K M G _ _ hI hG)) (fun h => absurd (by rw [hG]; exact lg_same _) h)
theorem fd_ok : ∀ (a : Fin 13) (b : Fin 7), b.val ≠ 0 → Op.cmpValue (FP.dcmp (FP.f2d (FP.fdiv (FP.i2f (nI a.val)) (FP.i2f (nI b.val)))) (FP.f2d (FP.fdiv (FP.i2f (nI a.val)) (FP.i2f (nI b.val))))) .l = 0 := by decide +kernel
theorem cov_hv {M : Mem} {mn en : Nat} (h : IN M mn en) : ¬ M 2 0 3 = 0 → vf_n32 (FP.fdiv (FP.i2f (fcM M 2 0 9)) (FP.i2f (fcM M 2 0 3))) := fun h0 => by
  have hd := h.1
  unfold HD at hd
  have ⟨a, ha, hv⟩ := bT_v M
  have hs : Sm M (fcM M) := Sm_fc Sm.rf
  rw [hs 2 0 3 rfl, (fc_n h.DI h.CR).1, hv, hd.1.2.2.2.2.2]
  exact (fq_ok ⟨a, ha⟩ ⟨lf M 0, hd.2.2.2⟩ (fun z => h0 (by rw [hd.1.2.2.2.2.2, show lf M 0 = 0 from z]; rfl))).1
theorem cov_hv2 {C M : Mem} {mn en : Nat} (hC : IN C mn en) (h : RS C M mn en) : ¬ M 3 0 2 = 0 → vf_n32 (FP.fdiv (FP.i2f (coM (tM M false) 3 0 4)) (FP.i2f (coM (tM M false) 3 0 2))) := fun h0 => by
  have hd := hC.1
  unfold HD at hd
  have ⟨a, ha, hv⟩ := bT_v C
  have hR1 : RS C (tM M false) mn en := h.mm (Mm_t Mm.rf)
  have hR2 : RS C (coM (tM M false)) mn en := hR1.mm (Mm_co Mm.rf)
  rw [(coM_n hC.DI hC.CR hR1).2.2, hR2.2.1.1, hv, hd.1.2.2.2.2.2]
  exact (fq_ok ⟨a, ha⟩ ⟨lf C 0, hd.2.2.2⟩ (fun z => h0 (by rw [h.2.1.1, hd.1.2.2.2.2.2, show lf C 0 = 0 from z]; rfl))).1
set_option maxHeartbeats 4000000 in
set_option maxRecDepth 100000 in
theorem lc_coverage (hX : LX p l s m args meth c hh w b L xs) (hI : INV M) (hG : G (2, 0) = G (3, 0)) (hcs : cells + 16 ≤ room_1.cells) (hss : slots + 96 ≤ room_1.slots) (K : KK p l e s m args below meth c cells slots Q w b j) : VE p l e room_1 s m args below meth c cells slots Q 8 w 1869 (lvL w b (nI (8 * j)) none none) [] (ev w M G) := by
  obtain ⟨mn, en, hI⟩ := hI
  have hw : WK w := hX.2.1
  have hnt : l.stackTraces = false := hX.2.2.1
  refine r_aload_n hX.1 dL_law_1869 (i := 1) rfl rfl ?_
  refine r_aload hX.1 dL_law_1870 rfl ?_
  rcases ag_cov (G := G) hI with ⟨ho, hn⟩ | ⟨a, b7, hb7, ho, hn⟩
  · refine r_callSX hX.1 (c_L_coverage hnt hw hI.DI (cov_hv hI) (.inl ⟨M, G, ho, rfl⟩)) mx_L_coverage ms_L_coverage ml_L_210 rfl rfl (Nat.le_of_ble_eq_true rfl) (Nat.le_of_ble_eq_true rfl) (Nat.le_of_ble_eq_true rfl) (by omega) (by omega) dL_law_1872 (ko1 ?_)
    refine r_istore hX.1 dL_law_1875 (by decide) (lv2 := lvL w b (nI (8 * j)) (some (.int (nI 1))) none) rfl ?_
    refine r_aload_n hX.1 dL_law_1877 (i := 2) rfl rfl ?_
    have h3 := c_X3_coverage (l := l) (w := w) (M := M) (G := G) hnt hw hI.DM (cov_hv2 hI hI.RS)
    rw [hn G] at h3
    refine r_callV hX.1 h3 mw_X3_coverage kc3 mi_X3_coverage (hw.2 _ _ (by decide)) ev3 ml_L_213 rfl rfl (Nat.le_of_ble_eq_true rfl) (Nat.le_of_ble_eq_true rfl) (Nat.le_of_ble_eq_true rfl) (by omega) (by omega) dL_law_1878 (ko1 ?_)
    refine r_fstore hX.1 dL_law_1881 (by decide) (lv2 := lvL w b (nI (8 * j)) (some (.int (nI 1))) (some (.float 0))) rfl ?_
    refine r_aload_n hX.1 dL_law_1883 (i := 2) rfl rfl ?_
    refine r_callV hX.1 (c_X3_thrown hnt hw) mw_X3_thrown kc3 mi_X3_thrown (hw.2 _ _ (by decide)) ev3 ml_L_114 rfl rfl (Nat.le_of_ble_eq_true rfl) (Nat.le_of_ble_eq_true rfl) (Nat.le_of_ble_eq_true rfl) (by omega) (by omega) dL_law_1884 (ko1 ?_)
    rw [tM_1]
    refine r_iload hX.1 dL_law_1887 rfl ?_
    refine r_icmp_eq hX.1 dL_law_1889 (tgt := 1894) (by decide) (fun _ => ?_) (fun h => absurd rfl h)
    refine r_iload hX.1 dL_law_1894 rfl ?_
    refine r_if_ne hX.1 dL_law_1896 (tgt := 1932) (by decide) (fun _ => ?_) (fun h => absurd h (by decide))
    exact r_goto hX.1 dL_law_1932 (tgt := 1935) (by decide) (VE_widen (by omega) (by omega) (K (tM M true) G _ _ (hI.iv (Nsc.rf.mm (Mm_t Mm.rf))) hG))
  · have hq := fq_ok a b7 hb7
    have hs : Sm M (fcM M) := Sm_fc Sm.rf
    refine r_callSX hX.1 (c_L_coverage hnt hw hI.DI (cov_hv hI) (.inr ⟨_, fcM M, G, hq.2, ho, rfl⟩)) mx_L_coverage ms_L_coverage ml_L_210 rfl rfl (Nat.le_of_ble_eq_true rfl) (Nat.le_of_ble_eq_true rfl) (Nat.le_of_ble_eq_true rfl) (by omega) (by omega) dL_law_1872 (ko1 ?_)
    generalize hF : FP.fdiv (FP.i2f (nI a.val)) (FP.i2f (nI b7.val)) = F at hq hn
    refine r_istore hX.1 dL_law_1875 (by decide) (lv2 := lvL w b (nI (8 * j)) (some (.int (nI 0))) none) rfl ?_
    refine r_aload_n hX.1 dL_law_1877 (i := 2) rfl rfl ?_
    have h3 := c_X3_coverage (l := l) (w := w) (M := fcM M) (G := gs G (41, 0) (FP.f2d F).toInt64) hnt hw (DM_sm hI.DM hs) (cov_hv2 hI (hI.RS.cg hs))
    rw [hn _] at h3
    refine r_callV hX.1 h3 mw_X3_coverage kc3 mi_X3_coverage (hw.2 _ _ (by decide)) ev3 ml_L_213 rfl rfl (Nat.le_of_ble_eq_true rfl) (Nat.le_of_ble_eq_true rfl) (Nat.le_of_ble_eq_true rfl) (by omega) (by omega) dL_law_1878 (ko1 ?_)
    refine r_fstore hX.1 dL_law_1881 (by decide) (lv2 := lvL w b (nI (8 * j)) (some (.int (nI 0))) (some (.float F))) rfl ?_
    refine r_aload_n hX.1 dL_law_1883 (i := 2) rfl rfl ?_
    refine r_callV hX.1 (c_X3_thrown hnt hw) mw_X3_thrown kc3 mi_X3_thrown (hw.2 _ _ (by decide)) ev3 ml_L_114 rfl rfl (Nat.le_of_ble_eq_true rfl) (Nat.le_of_ble_eq_true rfl) (Nat.le_of_ble_eq_true rfl) (by omega) (by omega) dL_law_1884 (ko1 ?_)
    have ht : coM (tM (fcM M) false) 3 0 0 = nI 0 := Eq.trans (T0_co T0.rf) tM_0
    rw [ht]
    refine r_iload hX.1 dL_law_1887 rfl ?_
    refine r_icmp_eq hX.1 dL_law_1889 (tgt := 1894) (by decide) (fun _ => ?_) (fun h => absurd rfl h)
    refine r_iload hX.1 dL_law_1894 rfl ?_
    refine r_if_ne hX.1 dL_law_1896 (tgt := 1932) (by decide) (fun h => absurd (by decide) h) (fun _ => ?_)
    refine r_aload hX.1 dL_law_1899 rfl ?_
    refine r_iconst hX.1 dL_law_1901 (v := nI 0) (by decide) ?_
    refine r_dald hX.1 (key := (41, 0)) (n := 1) (j := 0) (f := fun _ => (gs G (41, 0) (FP.f2d F).toInt64 (41, 0)).toUInt64) (hw.2 _ _ (by decide)) rfl rfl (by decide) (by decide) dL_law_1902 ?_
    rw [show (gs G (41, 0) (FP.f2d F).toInt64 (41, 0)).toUInt64 = FP.f2d F by simp [gs]]
    refine r_fload hX.1 dL_law_1903 rfl ?_
    refine r_f2d hX.1 dL_law_1905 hq.2 ?_
    refine r_dcmp hX.1 dL_law_1906 ?_
    refine r_if_eq hX.1 dL_law_1907 (tgt := 1932) (by decide) (fun _ => ?_) (fun h => absurd (by rw [← hF]; exact fd_ok a b7 hb7) h)
    exact r_goto hX.1 dL_law_1932 (tgt := 1935) (by decide) (VE_widen (by omega) (by omega) (K (coM (tM (fcM M) false)) _ _ _ (hI.iv ((Nsc.rf.sm hs).mm (Mm_co (Mm_t Mm.rf)))) (by simp [gs, hG])))
end Cases2
