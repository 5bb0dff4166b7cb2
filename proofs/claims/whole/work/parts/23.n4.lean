/-! THE MODEL: purchases -/
section N4
def nWhyy (M : Mem) (G : Lng) (x y : Int32) : Oc := if nti M x = true then okO (some (.int (nI 112))) (tM M true) G else if nte (tM M false) y = true then okO (some (.int (nI 112))) (tM (tM M false) true) G else okO (some (.int (mim (tM (tM M false) false) (ix y) (ix x)))) (tM (tM M false) false) G
set_option maxHeartbeats 4000000 in
set_option maxRecDepth 100000 in
theorem c_X3_why {l : Launch} {w : Wo} {M : Mem} {G : Lng} {x y : Int32} (hnt : l.stackTraces = false) (hw : WK w) (hD : DM M) : CT l yX3_why [Cond.code yX3_why cX3_why 3 (some .char)] 7 0 0 w [.ref (w.1 (3, 0)), .int x, .int y] M G (nWhyy M G x y) := by
  refine CT_of hnt hw.1 mw_X3_why (by simp [Value.category]) (Nat.le_of_ble_eq_true rfl) (fun p e s m args below meth c X => ?_)
  refine r_aload_n X dX3_why_0 (i := 0) rfl rfl ?_
  refine r_iload_n X dX3_why_1 (i := 1) rfl rfl ?_
  refine r_callV X (c_X3_noInstall hnt hw (by first | with_reducible assumption | with_reducible rfl | omega | (with_reducible (repeat (first | assumption | refine DM_t ?_ | refine DM_ms rfl ?_ | refine DM_gr ?_ | refine DM_nd ?_ | refine DM_tk ?_ | refine DM_pt ?_ | refine DM_bg ?_ | refine DM_cs ?_ | refine DM_kv ?_ | refine DM_bs ?_ | refine DM_co ?_ | refine DM_pu ?_)); done))) mw_X3_noInstall kc3 mi_X3_noInstall (hw.2 _ _ (by first | decide | (simp [cnt] <;> omega))) ev3 ml_X3_103 rfl rfl (Nat.le_of_ble_eq_true rfl) (by first | decide | (simp only [rmv]; omega)) (by first | decide | (simp only [rmv]; omega)) (by first | decide | (simp only [rmv]; omega)) (by first | decide | (simp only [rmv]; omega)) dX3_why_2 (ko1 ?_)
  first | with_reducible refine r_ifb_ne X dX3_why_5 (tgt := 16) (by decide) (fun h1 => ?_) (fun h1 => ?_) | refine r_if_ne X dX3_why_5 (tgt := 16) (by decide) (fun h1 => ?_) (fun h1 => ?_)
  · rw [h1]
    refine r_bipush X dX3_why_16 (v := nI 112) (by decide) ?_
    refine r_goto X dX3_why_18 (tgt := 27) (by decide) ?_
    refine r_cret X dX3_why_27 (by first | with_reducible exact mis_c _ _ _ | with_reducible exact mim_c _ _ _ | rfl | assumption) (by first | decide | (simp only [rmv]; omega)) (by first | decide | (simp only [rmv]; omega)) ?_
    first | with_reducible rfl | (simp [nWhyy, h1]; done) | contradiction
  · rw [h1]
    have hx1 := (nti_Rg hD h1).1
    have hx2 := (nti_Rg hD h1).2
    refine r_aload_n X dX3_why_8 (i := 0) rfl rfl ?_
    refine r_iload_n X dX3_why_9 (i := 2) rfl rfl ?_
    refine r_callV X (c_X3_noEntitlement hnt hw ) mw_X3_noEntitlement kc3 mi_X3_noEntitlement (hw.2 _ _ (by first | decide | (simp [cnt] <;> omega))) ev3 ml_X3_106 rfl rfl (Nat.le_of_ble_eq_true rfl) (by first | decide | (simp only [rmv]; omega)) (by first | decide | (simp only [rmv]; omega)) (by first | decide | (simp only [rmv]; omega)) (by first | decide | (simp only [rmv]; omega)) dX3_why_10 (ko1 ?_)
    first | with_reducible refine r_ifb_eq X dX3_why_13 (tgt := 21) (by decide) (fun h2 => ?_) (fun h2 => ?_) | refine r_if_eq X dX3_why_13 (tgt := 21) (by decide) (fun h2 => ?_) (fun h2 => ?_)
    · rw [h2]
      have hy1 := (nte_Rg (DM_t hD) h2).1
      have hy2 := (nte_Rg (DM_t hD) h2).2
      refine r_aload_n X dX3_why_21 (i := 0) rfl rfl ?_
      refine r_iload_n X dX3_why_22 (i := 1) rfl rfl ?_
      refine r_iload_n X dX3_why_23 (i := 2) rfl rfl ?_
      refine r_callV X (c_X3_reasonOf hnt hw (by first | with_reducible assumption | with_reducible rfl | omega | (with_reducible (repeat (first | assumption | refine DM_t ?_ | refine DM_ms rfl ?_ | refine DM_gr ?_ | refine DM_nd ?_ | refine DM_tk ?_ | refine DM_pt ?_ | refine DM_bg ?_ | refine DM_cs ?_ | refine DM_kv ?_ | refine DM_bs ?_ | refine DM_co ?_ | refine DM_pu ?_)); done)) (by first | with_reducible assumption | with_reducible rfl | omega | (with_reducible (repeat (first | assumption | refine DM_t ?_ | refine DM_ms rfl ?_ | refine DM_gr ?_ | refine DM_nd ?_ | refine DM_tk ?_ | refine DM_pt ?_ | refine DM_bg ?_ | refine DM_cs ?_ | refine DM_kv ?_ | refine DM_bs ?_ | refine DM_co ?_ | refine DM_pu ?_)); done)) (by first | with_reducible assumption | with_reducible rfl | omega | (with_reducible (repeat (first | assumption | refine DM_t ?_ | refine DM_ms rfl ?_ | refine DM_gr ?_ | refine DM_nd ?_ | refine DM_tk ?_ | refine DM_pt ?_ | refine DM_bg ?_ | refine DM_cs ?_ | refine DM_kv ?_ | refine DM_bs ?_ | refine DM_co ?_ | refine DM_pu ?_)); done)) (by first | with_reducible assumption | with_reducible rfl | omega | (with_reducible (repeat (first | assumption | refine DM_t ?_ | refine DM_ms rfl ?_ | refine DM_gr ?_ | refine DM_nd ?_ | refine DM_tk ?_ | refine DM_pt ?_ | refine DM_bg ?_ | refine DM_cs ?_ | refine DM_kv ?_ | refine DM_bs ?_ | refine DM_co ?_ | refine DM_pu ?_)); done)) (by first | with_reducible assumption | with_reducible rfl | omega | (with_reducible (repeat (first | assumption | refine DM_t ?_ | refine DM_ms rfl ?_ | refine DM_gr ?_ | refine DM_nd ?_ | refine DM_tk ?_ | refine DM_pt ?_ | refine DM_bg ?_ | refine DM_cs ?_ | refine DM_kv ?_ | refine DM_bs ?_ | refine DM_co ?_ | refine DM_pu ?_)); done))) mw_X3_reasonOf kc3 mi_X3_reasonOf (hw.2 _ _ (by first | decide | (simp [cnt] <;> omega))) ev3 ml_X3_113 rfl rfl (Nat.le_of_ble_eq_true rfl) (by first | decide | (simp only [rmv]; omega)) (by first | decide | (simp only [rmv]; omega)) (by first | decide | (simp only [rmv]; omega)) (by first | decide | (simp only [rmv]; omega)) dX3_why_24 (ko1 ?_)
      refine r_cret X dX3_why_27 (by first | with_reducible exact mis_c _ _ _ | with_reducible exact mim_c _ _ _ | rfl | assumption) (by first | decide | (simp only [rmv]; omega)) (by first | decide | (simp only [rmv]; omega)) ?_
      first | with_reducible rfl | (simp [nWhyy, h1, h2]; done) | contradiction
    · rw [h2]
      refine r_bipush X dX3_why_16 (v := nI 112) (by decide) ?_
      refine r_goto X dX3_why_18 (tgt := 27) (by decide) ?_
      refine r_cret X dX3_why_27 (by first | with_reducible exact mis_c _ _ _ | with_reducible exact mim_c _ _ _ | rfl | assumption) (by first | decide | (simp only [rmv]; omega)) (by first | decide | (simp only [rmv]; omega)) ?_
      first | with_reducible rfl | (simp [nWhyy, h1, h2]; done) | contradiction

set_option maxHeartbeats 4000000 in
set_option maxRecDepth 100000 in
theorem c_X3_spare {l : Launch} {w : Wo} {M : Mem} {G : Lng} {x : Int32} (hnt : l.stackTraces = false) (hw : WK w) (hD : DM M) : CT l yX3_spare [Cond.code yX3_spare cX3_spare 2 (some .int)] 25 0 0 w [.ref (w.1 (3, 0)), .int x] M G (nSpare M G x) := by
  refine CT_of hnt hw.1 mw_X3_spare (by simp [Value.category]) (Nat.le_of_ble_eq_true rfl) (fun p e s m args below meth c X => ?_)
  refine r_aload_n X dX3_spare_0 (i := 0) rfl rfl ?_
  refine r_iload_n X dX3_spare_1 (i := 1) rfl rfl ?_
  refine r_callV X (c_X3_noEntitlement hnt hw ) mw_X3_noEntitlement kc3 mi_X3_noEntitlement (hw.2 _ _ (by first | decide | (simp [cnt] <;> omega))) ev3 ml_X3_106 rfl rfl (Nat.le_of_ble_eq_true rfl) (by first | decide | (simp only [rmv]; omega)) (by first | decide | (simp only [rmv]; omega)) (by first | decide | (simp only [rmv]; omega)) (by first | decide | (simp only [rmv]; omega)) dX3_spare_2 (ko1 ?_)
  first | with_reducible refine r_ifb_eq X dX3_spare_5 (tgt := 10) (by decide) (fun h1 => ?_) (fun h1 => ?_) | refine r_if_eq X dX3_spare_5 (tgt := 10) (by decide) (fun h1 => ?_) (fun h1 => ?_)
  · rw [h1]
    have hy1 := (nte_Rg hD h1).1
    have hy2 := (nte_Rg hD h1).2
    refine r_aload_n X dX3_spare_10 (i := 0) rfl rfl ?_
    refine r_callV X (c_X3_cover hnt hw (by first | with_reducible assumption | with_reducible rfl | omega | (with_reducible (repeat (first | assumption | refine DM_t ?_ | refine DM_ms rfl ?_ | refine DM_gr ?_ | refine DM_nd ?_ | refine DM_tk ?_ | refine DM_pt ?_ | refine DM_bg ?_ | refine DM_cs ?_ | refine DM_kv ?_ | refine DM_bs ?_ | refine DM_co ?_ | refine DM_pu ?_)); done))) mw_X3_cover kc3 mi_X3_cover (hw.2 _ _ (by first | decide | (simp [cnt] <;> omega))) ev3 ml_X3_148 rfl rfl (Nat.le_of_ble_eq_true rfl) (by first | decide | (simp only [rmv]; omega)) (by first | decide | (simp only [rmv]; omega)) (by first | decide | (simp only [rmv]; omega)) (by first | decide | (simp only [rmv]; omega)) dX3_spare_11 (ko0 ?_)
    refine r_aload_n X dX3_spare_14 (i := 0) rfl rfl ?_
    refine r_get X kc3 (j := 20) (hw.2 _ _ (by first | decide | (simp [cnt] <;> omega))) ev3 (by decide) rfl fl_X3_53 dX3_spare_15 ?_
    refine r_iload_n X dX3_spare_18 (i := 1) rfl rfl ?_
    refine r_iald X (hw.2 _ _ (by first | decide | (simp [cnt] <;> omega))) (evA (by decide) (by decide)) (by first | with_reducible rfl | with_reducible assumption | (rw [pk_mul, nI_add])) (by first | with_reducible assumption | (simp [alen] <;> omega)) (by decide) dX3_spare_19 ?_
    refine r_aload_n X dX3_spare_20 (i := 0) rfl rfl ?_
    refine r_iload_n X dX3_spare_21 (i := 1) rfl rfl ?_
    refine r_callV X (c_X3_needs hnt hw (by first | with_reducible assumption | with_reducible rfl | omega | (with_reducible (repeat (first | assumption | refine DM_t ?_ | refine DM_ms rfl ?_ | refine DM_gr ?_ | refine DM_nd ?_ | refine DM_tk ?_ | refine DM_pt ?_ | refine DM_bg ?_ | refine DM_cs ?_ | refine DM_kv ?_ | refine DM_bs ?_ | refine DM_co ?_ | refine DM_pu ?_)); done)) (by first | with_reducible assumption | with_reducible rfl | omega | (with_reducible (repeat (first | assumption | refine DM_t ?_ | refine DM_ms rfl ?_ | refine DM_gr ?_ | refine DM_nd ?_ | refine DM_tk ?_ | refine DM_pt ?_ | refine DM_bg ?_ | refine DM_cs ?_ | refine DM_kv ?_ | refine DM_bs ?_ | refine DM_co ?_ | refine DM_pu ?_)); done)) (by first | with_reducible assumption | with_reducible rfl | omega | (with_reducible (repeat (first | assumption | refine DM_t ?_ | refine DM_ms rfl ?_ | refine DM_gr ?_ | refine DM_nd ?_ | refine DM_tk ?_ | refine DM_pt ?_ | refine DM_bg ?_ | refine DM_cs ?_ | refine DM_kv ?_ | refine DM_bs ?_ | refine DM_co ?_ | refine DM_pu ?_)); done))) mw_X3_needs kc3 mi_X3_needs (hw.2 _ _ (by first | decide | (simp [cnt] <;> omega))) ev3 ml_X3_126 rfl rfl (Nat.le_of_ble_eq_true rfl) (by first | decide | (simp only [rmv]; omega)) (by first | decide | (simp only [rmv]; omega)) (by first | decide | (simp only [rmv]; omega)) (by first | decide | (simp only [rmv]; omega)) dX3_spare_22 (ko1 ?_)
    refine r_isub X dX3_spare_25 ?_
    refine r_iret X dX3_spare_26 (by first | decide | (simp only [rmv]; omega)) (by first | decide | (simp only [rmv]; omega)) ?_
    first | with_reducible rfl | (simp [nSpare, h1]; done) | contradiction | with_reducible assumption
  · rw [h1]
    refine r_iconst X dX3_spare_8 (v := nI 0) (by decide) ?_
    refine r_iret X dX3_spare_9 (by first | decide | (simp only [rmv]; omega)) (by first | decide | (simp only [rmv]; omega)) ?_
    first | with_reducible rfl | (simp [nSpare, h1]; done) | contradiction | with_reducible assumption

set_option maxHeartbeats 4000000 in
set_option maxRecDepth 100000 in
theorem lp_np {p : Program} {l : Launch} {e : Env} {s : State} {m : MethodId} {args : Array Value} {below : List Frame} {meth : Method} {c : Code} {w : Wo} {M : Mem} {G : Lng} {pl : Int32} (hnt : l.stackTraces = false) (hw : WK w) (X : Cx p l (rmv 25 0 0) s m args meth c cX3_noPurchase 3 yX3_noPurchase.cls (some .boolean) [] w) (hD : DM M) : ∀ (n k : Nat), k + n = ix (M 3 0 1) → ∀ bb : Bool, bb = npF M n k → VE p l e (rmv 25 0 0) s m args below meth c (0) (0) (QV w (okO (some (.int (bi (!bb)))) (if bb = true then puM M else ms M 3 0 0 pl) G) below args s 0 0) 3 w 2 [some (.ref (w.1 (3, 0))), some (.int pl), some (.int (nI k))] [] (ev w (M) (G)) := by
  intro n
  induction n with
  | zero =>
    intro k hk bb hb
    have h6 := hD.1.2
    refine r_iload_n X dX3_noPurchase_2 (i := 2) rfl rfl ?_
    refine r_aload_n X dX3_noPurchase_3 (i := 0) rfl rfl ?_
    refine r_get X kc3 (j := 1) (hw.2 _ _ (by first | decide | (simp [cnt] <;> omega))) ev3 (by decide) rfl fl_X3_100 dX3_noPurchase_4 ?_
    refine r_icmpr_ge X dX3_noPurchase_7 (tgt := 43) (by decide) (by with_reducible rfl) (hD.1.1) (by omega) (by omega) (fun h1 => ?_) (fun h1 => ?_)
    · have hq : bb = true := by rw [hb]; rfl
      subst hq
      refine r_aload_n X dX3_noPurchase_43 (i := 0) rfl rfl ?_
      refine r_iconst X dX3_noPurchase_44 (v := nI 0) (by decide) ?_
      refine r_put X kc3 (j := 0) (hw.2 _ _ (by first | decide | (simp [cnt] <;> omega))) ev3 (by decide) (Nat.le_of_ble_eq_true rfl) fl_X3_78 rfl rfl rfl dX3_noPurchase_45 es_3_0 ?_
      refine r_aload_n X dX3_noPurchase_48 (i := 0) rfl rfl ?_
      refine r_callV X (c_X3_begin hnt hw (by first | with_reducible assumption | with_reducible rfl | omega | (with_reducible (repeat (first | assumption | refine DM_t ?_ | refine DM_ms rfl ?_ | refine DM_gr ?_ | refine DM_nd ?_ | refine DM_tk ?_ | refine DM_pt ?_ | refine DM_bg ?_ | refine DM_cs ?_ | refine DM_kv ?_ | refine DM_bs ?_ | refine DM_co ?_ | refine DM_pu ?_)); done))) mw_X3_begin kc3 mi_X3_begin (hw.2 _ _ (by first | decide | (simp [cnt] <;> omega))) ev3 ml_X3_142 rfl rfl (Nat.le_of_ble_eq_true rfl) (by first | decide | (simp only [rmv]; omega)) (by first | decide | (simp only [rmv]; omega)) (by first | decide | (simp only [rmv]; omega)) (by first | decide | (simp only [rmv]; omega)) dX3_noPurchase_49 (ko0 ?_)
      refine r_aload_n X dX3_noPurchase_52 (i := 0) rfl rfl ?_
      refine r_iconst X dX3_noPurchase_53 (v := nI 0) (by decide) ?_
      refine r_callV X (c_X3_buys hnt hw (ix (M 3 0 1)) 0 _ (by omega) (DN_bg (DN_ms rfl (DN.of hD)))) mw_X3_buys kc3 mi_X3_buys (hw.2 _ _ (by first | decide | (simp [cnt] <;> omega))) ev3 ml_X3_161 rfl rfl (Nat.le_of_ble_eq_true rfl) (by first | decide | (simp only [rmv]; omega)) (by first | decide | (simp only [rmv]; omega)) (by first | decide | (simp only [rmv]; omega)) (by first | decide | (simp only [rmv]; omega)) dX3_noPurchase_54 (ko0 ?_)
      refine r_aload_n X dX3_noPurchase_57 (i := 0) rfl rfl ?_
      refine r_callV X (c_X3_put hnt hw (by first | with_reducible assumption | with_reducible rfl | omega | (with_reducible (repeat (first | assumption | refine DM_t ?_ | refine DM_ms rfl ?_ | refine DM_gr ?_ | refine DM_nd ?_ | refine DM_tk ?_ | refine DM_pt ?_ | refine DM_bg ?_ | refine DM_cs ?_ | refine DM_kv ?_ | refine DM_bs ?_ | refine DM_co ?_ | refine DM_pu ?_)); done))) mw_X3_put kc3 mi_X3_put (hw.2 _ _ (by first | decide | (simp [cnt] <;> omega))) ev3 ml_X3_145 rfl rfl (Nat.le_of_ble_eq_true rfl) (by first | decide | (simp only [rmv]; omega)) (by first | decide | (simp only [rmv]; omega)) (by first | decide | (simp only [rmv]; omega)) (by first | decide | (simp only [rmv]; omega)) dX3_noPurchase_58 (ko0 ?_)
      refine r_iconst X dX3_noPurchase_61 (v := nI 0) (by decide) ?_
      exact r_zret X dX3_noPurchase_62 (by decide) (by decide) rfl rfl
    · exact absurd h1 (by omega)
  | succ n ih =>
    intro k hk bb hb
    have h6 := hD.1.2
    refine r_iload_n X dX3_noPurchase_2 (i := 2) rfl rfl ?_
    refine r_aload_n X dX3_noPurchase_3 (i := 0) rfl rfl ?_
    refine r_get X kc3 (j := 1) (hw.2 _ _ (by first | decide | (simp [cnt] <;> omega))) ev3 (by decide) rfl fl_X3_100 dX3_noPurchase_4 ?_
    refine r_icmpr_ge X dX3_noPurchase_7 (tgt := 43) (by decide) (by with_reducible rfl) (hD.1.1) (by omega) (by omega) (fun h1 => ?_) (fun h1 => ?_)
    · exact absurd h1 (by omega)
    · refine r_aload_n X dX3_noPurchase_10 (i := 0) rfl rfl ?_
      refine r_get X kc3 (j := 13) (hw.2 _ _ (by first | decide | (simp [cnt] <;> omega))) ev3 (by decide) rfl fl_X3_31 dX3_noPurchase_11 ?_
      refine r_iload_n X dX3_noPurchase_14 (i := 2) rfl rfl ?_
      refine r_zald X (hw.2 _ _ (by first | decide | (simp [cnt] <;> omega))) (evA (by decide) (by decide)) (by first | with_reducible rfl | with_reducible assumption | (rw [pk_mul, nI_add])) (by first | with_reducible assumption | (simp [alen] <;> omega)) (by decide) dX3_noPurchase_15 ?_
      first | with_reducible refine r_ifb_ne X dX3_noPurchase_16 (tgt := 37) (by decide) (fun h2 => ?_) (fun h2 => ?_) | refine r_if_ne X dX3_noPurchase_16 (tgt := 37) (by decide) (fun h2 => ?_) (fun h2 => ?_)
      · first | with_reducible refine r_iincn X dX3_noPurchase_37 rfl (by decide) rfl ?_ | refine r_iinc1 X dX3_noPurchase_37 rfl (by decide) rfl ?_
        refine r_goto X dX3_noPurchase_40 (tgt := 2) (by decide) ?_
        exact ih (k + 1) (by omega) bb (by rw [hb]; simp [npF, h1, h2])
      · refine r_aload_n X dX3_noPurchase_19 (i := 0) rfl rfl ?_
        refine r_iload_n X dX3_noPurchase_20 (i := 2) rfl rfl ?_
        refine r_callV X (c_X3_fits_ hnt hw (by first | with_reducible assumption | with_reducible rfl | omega | (with_reducible (repeat (first | assumption | refine DM_t ?_ | refine DM_ms rfl ?_ | refine DM_gr ?_ | refine DM_nd ?_ | refine DM_tk ?_ | refine DM_pt ?_ | refine DM_bg ?_ | refine DM_cs ?_ | refine DM_kv ?_ | refine DM_bs ?_ | refine DM_co ?_ | refine DM_pu ?_)); done)) (by first | with_reducible assumption | with_reducible rfl | omega | (with_reducible (repeat (first | assumption | refine DM_t ?_ | refine DM_ms rfl ?_ | refine DM_gr ?_ | refine DM_nd ?_ | refine DM_tk ?_ | refine DM_pt ?_ | refine DM_bg ?_ | refine DM_cs ?_ | refine DM_kv ?_ | refine DM_bs ?_ | refine DM_co ?_ | refine DM_pu ?_)); done)) (by first | with_reducible assumption | with_reducible rfl | omega | (with_reducible (repeat (first | assumption | refine DM_t ?_ | refine DM_ms rfl ?_ | refine DM_gr ?_ | refine DM_nd ?_ | refine DM_tk ?_ | refine DM_pt ?_ | refine DM_bg ?_ | refine DM_cs ?_ | refine DM_kv ?_ | refine DM_bs ?_ | refine DM_co ?_ | refine DM_pu ?_)); done))) mw_X3_fits_ kc3 mi_X3_fits_ (hw.2 _ _ (by first | decide | (simp [cnt] <;> omega))) ev3 ml_X3_120 rfl rfl (Nat.le_of_ble_eq_true rfl) (by first | decide | (simp only [rmv]; omega)) (by first | decide | (simp only [rmv]; omega)) (by first | decide | (simp only [rmv]; omega)) (by first | decide | (simp only [rmv]; omega)) dX3_noPurchase_21 (ko1 ?_)
        refine r_if_le X dX3_noPurchase_24 (tgt := 30) (by decide) (fun h3 => ?_) (fun h3 => ?_)
        · refine r_aload_n X dX3_noPurchase_30 (i := 0) rfl rfl ?_
          refine r_iload_n X dX3_noPurchase_31 (i := 1) rfl rfl ?_
          refine r_put X kc3 (j := 0) (hw.2 _ _ (by first | decide | (simp [cnt] <;> omega))) ev3 (by decide) (Nat.le_of_ble_eq_true rfl) fl_X3_78 rfl rfl rfl dX3_noPurchase_32 es_3_0 ?_
          have hq : bb = false := by rw [hb]; simp [npF, h1, h2, h3]
          subst hq
          refine r_iconst X dX3_noPurchase_35 (v := nI 1) (by decide) ?_
          exact r_zret X dX3_noPurchase_36 (by decide) (by decide) rfl rfl
        · refine r_goto X dX3_noPurchase_27 (tgt := 37) (by decide) ?_
          first | with_reducible refine r_iincn X dX3_noPurchase_37 rfl (by decide) rfl ?_ | refine r_iinc1 X dX3_noPurchase_37 rfl (by decide) rfl ?_
          refine r_goto X dX3_noPurchase_40 (tgt := 2) (by decide) ?_
          exact ih (k + 1) (by omega) bb (by rw [hb]; simp [npF, h1, h2, h3])

set_option maxHeartbeats 4000000 in
set_option maxRecDepth 100000 in
theorem c_X3_noPurchase {l : Launch} {w : Wo} {M : Mem} {G : Lng} {x : Int32} (hnt : l.stackTraces = false) (hw : WK w) (hD : DM M) : CT l yX3_noPurchase [Cond.code yX3_noPurchase cX3_noPurchase 3 (some .boolean)] 25 0 0 w [.ref (w.1 (3, 0)), .int x] M G (okO (some (.int (bi (!npA M)))) (if npA M = true then puM M else ms M 3 0 0 x) G) := by
  refine CT_of hnt hw.1 mw_X3_noPurchase (by simp [Value.category]) (Nat.le_of_ble_eq_true rfl) (fun p e s m args below meth c X => ?_)
  refine r_iconst X dX3_noPurchase_0 (v := nI 0) (by decide) ?_
  refine r_istore_n X dX3_noPurchase_1 (i := 2) rfl (by decide) rfl ?_
  exact lp_np hnt hw X hD (ix (M 3 0 1)) 0 (by omega) _ rfl

set_option maxHeartbeats 4000000 in
set_option maxRecDepth 100000 in
theorem c_X3_purchase {l : Launch} {w : Wo} {M : Mem} {G : Lng}  (hnt : l.stackTraces = false) (hw : WK w) (hD : DM M) : CT l yX3_purchase [Cond.code yX3_purchase cX3_purchase 1 (some .int)] 26 0 0 w [.ref (w.1 (3, 0))] M G (nPurchase M G) := by
  refine CT_of hnt hw.1 mw_X3_purchase (by simp [Value.category]) (Nat.le_of_ble_eq_true rfl) (fun p e s m args below meth c X => ?_)
  refine r_aload_n X dX3_purchase_0 (i := 0) rfl rfl ?_
  refine r_iconst X dX3_purchase_1 (v := nI 1) (by decide) ?_
  refine r_callV X (c_X3_noPurchase hnt hw (by first | with_reducible assumption | with_reducible rfl | omega | (with_reducible (repeat (first | assumption | refine DM_t ?_ | refine DM_ms rfl ?_ | refine DM_gr ?_ | refine DM_nd ?_ | refine DM_tk ?_ | refine DM_pt ?_ | refine DM_bg ?_ | refine DM_cs ?_ | refine DM_kv ?_ | refine DM_bs ?_ | refine DM_co ?_ | refine DM_pu ?_)); done))) mw_X3_noPurchase kc3 mi_X3_noPurchase (hw.2 _ _ (by first | decide | (simp [cnt] <;> omega))) ev3 ml_X3_165 rfl rfl (Nat.le_of_ble_eq_true rfl) (by first | decide | (simp only [rmv]; omega)) (by first | decide | (simp only [rmv]; omega)) (by first | decide | (simp only [rmv]; omega)) (by first | decide | (simp only [rmv]; omega)) dX3_purchase_2 (ko1 ?_)
  first | with_reducible refine r_ifb_eq X dX3_purchase_5 (tgt := 12) (by decide) (fun h1 => ?_) (fun h1 => ?_) | refine r_if_eq X dX3_purchase_5 (tgt := 12) (by decide) (fun h1 => ?_) (fun h1 => ?_)
  · have hq : npA (M) = true := by simpa using h1
    rw [if_pos hq]
    refine r_aload_n X dX3_purchase_12 (i := 0) rfl rfl ?_
    refine r_get X kc3 (j := 4) (hw.2 _ _ (by first | decide | (simp [cnt] <;> omega))) ev3 (by decide) rfl fl_X3_129 dX3_purchase_13 ?_
    refine r_iret X dX3_purchase_16 (by first | decide | (simp only [rmv]; omega)) (by first | decide | (simp only [rmv]; omega)) ?_
    first | with_reducible rfl | (simp [nPurchase, hq]; done) | contradiction | with_reducible assumption
  · have hq : npA (M) = false := by simpa using h1
    rw [if_neg (by rw [hq]; decide)]
    refine r_iconst X dX3_purchase_8 (v := nI 0) (by decide) ?_
    refine r_goto X dX3_purchase_9 (tgt := 16) (by decide) ?_
    refine r_iret X dX3_purchase_16 (by first | decide | (simp only [rmv]; omega)) (by first | decide | (simp only [rmv]; omega)) ?_
    first | with_reducible rfl | (simp [nPurchase, hq]; done) | contradiction | with_reducible assumption

set_option maxHeartbeats 4000000 in
set_option maxRecDepth 100000 in
theorem c_X3_purchaseByTrying {l : Launch} {w : Wo} {M : Mem} {G : Lng}  (hnt : l.stackTraces = false) (hw : WK w) (hD : DM M) : CT l yX3_purchaseByTrying [Cond.code yX3_purchaseByTrying cX3_purchaseByTrying 1 (some .int)] 26 0 0 w [.ref (w.1 (3, 0))] M G (nPT M G) := by
  refine CT_of hnt hw.1 mw_X3_purchaseByTrying (by simp [Value.category]) (Nat.le_of_ble_eq_true rfl) (fun p e s m args below meth c X => ?_)
  refine r_aload_n X dX3_purchaseByTrying_0 (i := 0) rfl rfl ?_
  refine r_get X kc3 (j := 2) (hw.2 _ _ (by first | decide | (simp [cnt] <;> omega))) ev3 (by decide) rfl fl_X3_97 dX3_purchaseByTrying_1 ?_
  refine r_iconst X dX3_purchaseByTrying_4 (v := nI 4) (by decide) ?_
  first | with_reducible refine r_icmpn_le X dX3_purchaseByTrying_5 (tgt := 14) (by decide) (by omega) (by omega) (fun h1 => ?_) (fun h1 => ?_) | refine r_icmp_le X dX3_purchaseByTrying_5 (tgt := 14) (by decide) (fun h1 => ?_) (fun h1 => ?_)
  · refine r_aload_n X dX3_purchaseByTrying_14 (i := 0) rfl rfl ?_
    refine r_iconst X dX3_purchaseByTrying_15 (v := nI 2) (by decide) ?_
    refine r_callV X (c_X3_noPurchase hnt hw (by first | with_reducible assumption | with_reducible rfl | omega | (with_reducible (repeat (first | assumption | refine DM_t ?_ | refine DM_ms rfl ?_ | refine DM_gr ?_ | refine DM_nd ?_ | refine DM_tk ?_ | refine DM_pt ?_ | refine DM_bg ?_ | refine DM_cs ?_ | refine DM_kv ?_ | refine DM_bs ?_ | refine DM_co ?_ | refine DM_pu ?_)); done))) mw_X3_noPurchase kc3 mi_X3_noPurchase (hw.2 _ _ (by first | decide | (simp [cnt] <;> omega))) ev3 ml_X3_165 rfl rfl (Nat.le_of_ble_eq_true rfl) (by first | decide | (simp only [rmv]; omega)) (by first | decide | (simp only [rmv]; omega)) (by first | decide | (simp only [rmv]; omega)) (by first | decide | (simp only [rmv]; omega)) dX3_purchaseByTrying_16 (ko1 ?_)
    first | with_reducible refine r_ifb_eq X dX3_purchaseByTrying_19 (tgt := 26) (by decide) (fun h2 => ?_) (fun h2 => ?_) | refine r_if_eq X dX3_purchaseByTrying_19 (tgt := 26) (by decide) (fun h2 => ?_) (fun h2 => ?_)
    · have hq : npA (M) = true := by simpa using h2
      rw [if_pos hq]
      refine r_aload_n X dX3_purchaseByTrying_26 (i := 0) rfl rfl ?_
      refine r_get X kc3 (j := 4) (hw.2 _ _ (by first | decide | (simp [cnt] <;> omega))) ev3 (by decide) rfl fl_X3_129 dX3_purchaseByTrying_27 ?_
      refine r_iret X dX3_purchaseByTrying_30 (by first | decide | (simp only [rmv]; omega)) (by first | decide | (simp only [rmv]; omega)) ?_
      first | with_reducible rfl | (first | (simp [nPT, er, h1, h2]; done) | simp [nPT, hq, h1, h2]; done) | contradiction | with_reducible assumption
    · have hq : npA (M) = false := by simpa using h2
      rw [if_neg (by rw [hq]; decide)]
      refine r_iconst X dX3_purchaseByTrying_22 (v := nI 0) (by decide) ?_
      refine r_goto X dX3_purchaseByTrying_23 (tgt := 30) (by decide) ?_
      refine r_iret X dX3_purchaseByTrying_30 (by first | decide | (simp only [rmv]; omega)) (by first | decide | (simp only [rmv]; omega)) ?_
      first | with_reducible rfl | (first | (simp [nPT, er, h1, h2]; done) | simp [nPT, hq, h1, h2]; done) | contradiction | with_reducible assumption
  · refine r_aload_n X dX3_purchaseByTrying_8 (i := 0) rfl rfl ?_
    refine r_iconst X dX3_purchaseByTrying_9 (v := nI 1) (by decide) ?_
    refine r_callV X (c_X3_fail hnt hw ) mw_X3_fail kc3 mi_X3_fail (hw.2 _ _ (by first | decide | (simp [cnt] <;> omega))) ev3 ml_X3_93 rfl rfl (Nat.le_of_ble_eq_true rfl) (by first | decide | (simp only [rmv]; omega)) (by first | decide | (simp only [rmv]; omega)) (by first | decide | (simp only [rmv]; omega)) (by first | decide | (simp only [rmv]; omega)) dX3_purchaseByTrying_10 (ko1 ?_)
    refine r_iret X dX3_purchaseByTrying_13 (by first | decide | (simp only [rmv]; omega)) (by first | decide | (simp only [rmv]; omega)) ?_
    first | with_reducible rfl | (first | (simp [nPT, er, h1]; done) | simp [nPT, hq, h1]; done) | contradiction | with_reducible assumption

set_option maxHeartbeats 4000000 in
set_option maxRecDepth 100000 in
theorem c_X3_toBuy {l : Launch} {w : Wo} {M : Mem} {G : Lng} {x : Int32} (hnt : l.stackTraces = false) (hw : WK w) (hD : DM M) : CT l yX3_toBuy [Cond.code yX3_toBuy cX3_toBuy 2 (some .int)] 26 0 0 w [.ref (w.1 (3, 0)), .int x] M G (nToBuy M G x) := by
  refine CT_of hnt hw.1 mw_X3_toBuy (by simp [Value.category]) (Nat.le_of_ble_eq_true rfl) (fun p e s m args below meth c X => ?_)
  refine r_aload_n X dX3_toBuy_0 (i := 0) rfl rfl ?_
  refine r_iload_n X dX3_toBuy_1 (i := 1) rfl rfl ?_
  refine r_callV X (c_X3_noEntitlement hnt hw ) mw_X3_noEntitlement kc3 mi_X3_noEntitlement (hw.2 _ _ (by first | decide | (simp [cnt] <;> omega))) ev3 ml_X3_106 rfl rfl (Nat.le_of_ble_eq_true rfl) (by first | decide | (simp only [rmv]; omega)) (by first | decide | (simp only [rmv]; omega)) (by first | decide | (simp only [rmv]; omega)) (by first | decide | (simp only [rmv]; omega)) dX3_toBuy_2 (ko1 ?_)
  first | with_reducible refine r_ifb_eq X dX3_toBuy_5 (tgt := 10) (by decide) (fun h1 => ?_) (fun h1 => ?_) | refine r_if_eq X dX3_toBuy_5 (tgt := 10) (by decide) (fun h1 => ?_) (fun h1 => ?_)
  · rw [h1]
    have hy1 := (nte_Rg hD h1).1
    have hy2 := (nte_Rg hD h1).2
    refine r_aload_n X dX3_toBuy_10 (i := 0) rfl rfl ?_
    refine r_iconst X dX3_toBuy_11 (v := nI 2) (by decide) ?_
    refine r_callV X (c_X3_noPurchase hnt hw (by first | with_reducible assumption | with_reducible rfl | omega | (with_reducible (repeat (first | assumption | refine DM_t ?_ | refine DM_ms rfl ?_ | refine DM_gr ?_ | refine DM_nd ?_ | refine DM_tk ?_ | refine DM_pt ?_ | refine DM_bg ?_ | refine DM_cs ?_ | refine DM_kv ?_ | refine DM_bs ?_ | refine DM_co ?_ | refine DM_pu ?_)); done))) mw_X3_noPurchase kc3 mi_X3_noPurchase (hw.2 _ _ (by first | decide | (simp [cnt] <;> omega))) ev3 ml_X3_165 rfl rfl (Nat.le_of_ble_eq_true rfl) (by first | decide | (simp only [rmv]; omega)) (by first | decide | (simp only [rmv]; omega)) (by first | decide | (simp only [rmv]; omega)) (by first | decide | (simp only [rmv]; omega)) dX3_toBuy_12 (ko1 ?_)
    first | with_reducible refine r_ifb_eq X dX3_toBuy_15 (tgt := 22) (by decide) (fun h2 => ?_) (fun h2 => ?_) | refine r_if_eq X dX3_toBuy_15 (tgt := 22) (by decide) (fun h2 => ?_) (fun h2 => ?_)
    · have hq : npA (tM M false) = true := by simpa using h2
      rw [if_pos hq]
      refine r_aload_n X dX3_toBuy_22 (i := 0) rfl rfl ?_
      refine r_iload_n X dX3_toBuy_23 (i := 1) rfl rfl ?_
      refine r_callV X (c_X3_beyond hnt hw (by first | with_reducible assumption | with_reducible rfl | omega | (with_reducible (repeat (first | assumption | refine DM_t ?_ | refine DM_ms rfl ?_ | refine DM_gr ?_ | refine DM_nd ?_ | refine DM_tk ?_ | refine DM_pt ?_ | refine DM_bg ?_ | refine DM_cs ?_ | refine DM_kv ?_ | refine DM_bs ?_ | refine DM_co ?_ | refine DM_pu ?_)); done)) (by first | with_reducible assumption | with_reducible rfl | omega | (with_reducible (repeat (first | assumption | refine DM_t ?_ | refine DM_ms rfl ?_ | refine DM_gr ?_ | refine DM_nd ?_ | refine DM_tk ?_ | refine DM_pt ?_ | refine DM_bg ?_ | refine DM_cs ?_ | refine DM_kv ?_ | refine DM_bs ?_ | refine DM_co ?_ | refine DM_pu ?_)); done)) (by first | with_reducible assumption | with_reducible rfl | omega | (with_reducible (repeat (first | assumption | refine DM_t ?_ | refine DM_ms rfl ?_ | refine DM_gr ?_ | refine DM_nd ?_ | refine DM_tk ?_ | refine DM_pt ?_ | refine DM_bg ?_ | refine DM_cs ?_ | refine DM_kv ?_ | refine DM_bs ?_ | refine DM_co ?_ | refine DM_pu ?_)); done))) mw_X3_beyond kc3 mi_X3_beyond (hw.2 _ _ (by first | decide | (simp [cnt] <;> omega))) ev3 ml_X3_155 rfl rfl (Nat.le_of_ble_eq_true rfl) (by first | decide | (simp only [rmv]; omega)) (by first | decide | (simp only [rmv]; omega)) (by first | decide | (simp only [rmv]; omega)) (by first | decide | (simp only [rmv]; omega)) dX3_toBuy_24 (ko1 ?_)
      refine r_iret X dX3_toBuy_27 (by first | decide | (simp only [rmv]; omega)) (by first | decide | (simp only [rmv]; omega)) ?_
      first | with_reducible rfl | (first | (simp [nToBuy, h1, h2]; done) | simp [nToBuy, hq, h1, h2]; done) | contradiction | with_reducible assumption
    · have hq : npA (tM M false) = false := by simpa using h2
      rw [if_neg (by rw [hq]; decide)]
      refine r_iconst X dX3_toBuy_18 (v := nI 0) (by decide) ?_
      refine r_goto X dX3_toBuy_19 (tgt := 27) (by decide) ?_
      refine r_iret X dX3_toBuy_27 (by first | decide | (simp only [rmv]; omega)) (by first | decide | (simp only [rmv]; omega)) ?_
      first | with_reducible rfl | (first | (simp [nToBuy, h1, h2]; done) | simp [nToBuy, hq, h1, h2]; done) | contradiction | with_reducible assumption
  · rw [h1]
    refine r_iconst X dX3_toBuy_8 (v := nI 0) (by decide) ?_
    refine r_iret X dX3_toBuy_9 (by first | decide | (simp only [rmv]; omega)) (by first | decide | (simp only [rmv]; omega)) ?_
    first | with_reducible rfl | (first | (simp [nToBuy, h1]; done) | simp [nToBuy, hq, h1]; done) | contradiction | with_reducible assumption

theorem DM_tu {M : Mem} (h : DM M) : ∀ n, DM (itn tuH n M)
  | 0 => h
  | n + 1 => by
    have ih := DM_tu h n
    have ih2 := DM_nd (e := n) ih
    show DM (ms (ndM (itn tuH n M) n) 24 0 n _)
    unfold DM at ih2 ⊢
    simpa [ms] using ih2
theorem tu_en {M : Mem} : ∀ n, itn tuH n M 3 0 3 = M 3 0 3
  | 0 => rfl
  | n + 1 => by
    show ms (ndM (itn tuH n M) n) 24 0 n (itn tuH n M 24 0 n + byV (itn tuH n M) n) 3 0 3 = _
    rw [ms_o (fun h => absurd h.1 (by decide)), Mm_nd Mm.rf 3 0 3 rfl, tu_en n]
set_option maxHeartbeats 4000000 in
set_option maxRecDepth 100000 in
theorem lp_tum {p : Program} {l : Launch} {e : Env} {s : State} {m : MethodId} {args : Array Value} {below : List Frame} {meth : Method} {c : Code} {w : Wo} {M : Mem} {G : Lng} (hnt : l.stackTraces = false) (hw : WK w) (X : Cx p l (rmv 26 0 0) s m args meth c cX3_trueUp 2 yX3_trueUp.cls (some .int) [] w) (hD : DM M) : ∀ (n k : Nat) (M1 : Mem), k + n = ix (M 3 0 3) → M1 = itn tuH k (puM M) → DM M1 → M1 3 0 3 = M 3 0 3 → VE p l e (rmv 26 0 0) s m args below meth c (0) (0) (QV w (okO (some (.int (tuN M 3 0 4))) (tuN M) (gs G (3, 0) (G (3, 0) + (tuN M 3 0 4).toInt64))) below args s 0 0) 2 w 12 [some (.ref (w.1 (3, 0))), some (.int (nI k))] [] (ev w (M1) (G)) := by
  intro n
  induction n with
  | zero =>
    intro k M1 hk hM hD1 hE
    have h6 := hD.2.2.1.2
    refine r_iload_n X dX3_trueUp_12 (i := 1) rfl rfl ?_
    refine r_aload_n X dX3_trueUp_13 (i := 0) rfl rfl ?_
    refine r_get X kc3 (j := 3) (hw.2 _ _ (by first | decide | (simp [cnt] <;> omega))) ev3 (by decide) rfl fl_X3_86 dX3_trueUp_14 ?_
    refine r_icmpr_ge X dX3_trueUp_17 (tgt := 40) (by decide) (by with_reducible rfl) (hE.trans hD.2.2.1.1) (by omega) (by omega) (fun h1 => ?_) (fun h1 => ?_)
    · refine r_aload_n X dX3_trueUp_40 (i := 0) rfl rfl ?_
      refine r_dup X dX3_trueUp_41 rfl ?_
      refine r_get X kc3 (j := 5) (hw.2 _ _ (by first | decide | (simp [cnt] <;> omega))) ev3 (by decide) rfl fl_X3_168 dX3_trueUp_42 ?_
      refine r_aload_n X dX3_trueUp_45 (i := 0) rfl rfl ?_
      refine r_get X kc3 (j := 4) (hw.2 _ _ (by first | decide | (simp [cnt] <;> omega))) ev3 (by decide) rfl fl_X3_129 dX3_trueUp_46 ?_
      refine r_i2l X dX3_trueUp_49 ?_
      refine r_ladd X dX3_trueUp_50 ?_
      refine r_put X kc3 (j := 5) (hw.2 _ _ (by first | decide | (simp [cnt] <;> omega))) ev3 (by decide) (Nat.le_of_ble_eq_true rfl) fl_X3_168 rfl rfl rfl dX3_trueUp_51 es_3_5 ?_
      refine r_aload_n X dX3_trueUp_54 (i := 0) rfl rfl ?_
      refine r_get X kc3 (j := 4) (hw.2 _ _ (by first | decide | (simp [cnt] <;> omega))) ev3 (by decide) rfl fl_X3_129 dX3_trueUp_55 ?_
      refine r_iret X dX3_trueUp_58 (by first | decide | (simp only [rmv]; omega)) (by first | decide | (simp only [rmv]; omega)) ?_
      first | with_reducible rfl | (((have hkk : k = ix (M 3 0 3) := by omega); subst hM; subst hkk; rfl); done) | contradiction | with_reducible assumption
    · exact absurd h1 (by omega)
  | succ n ih =>
    intro k M1 hk hM hD1 hE
    have h6 := hD.2.2.1.2
    refine r_iload_n X dX3_trueUp_12 (i := 1) rfl rfl ?_
    refine r_aload_n X dX3_trueUp_13 (i := 0) rfl rfl ?_
    refine r_get X kc3 (j := 3) (hw.2 _ _ (by first | decide | (simp [cnt] <;> omega))) ev3 (by decide) rfl fl_X3_86 dX3_trueUp_14 ?_
    refine r_icmpr_ge X dX3_trueUp_17 (tgt := 40) (by decide) (by with_reducible rfl) (hE.trans hD.2.2.1.1) (by omega) (by omega) (fun h1 => ?_) (fun h1 => ?_)
    · exact absurd h1 (by omega)
    · refine r_aload_n X dX3_trueUp_20 (i := 0) rfl rfl ?_
      refine r_get X kc3 (j := 20) (hw.2 _ _ (by first | decide | (simp [cnt] <;> omega))) ev3 (by decide) rfl fl_X3_53 dX3_trueUp_21 ?_
      refine r_iload_n X dX3_trueUp_24 (i := 1) rfl rfl ?_
      refine r_dup2 X dX3_trueUp_25 rfl rfl ?_
      refine r_iald X (hw.2 _ _ (by first | decide | (simp [cnt] <;> omega))) (evA (by decide) (by decide)) (by first | with_reducible rfl | with_reducible assumption | (rw [pk_mul, nI_add])) (by first | with_reducible assumption | (simp [alen] <;> omega)) (by decide) dX3_trueUp_26 ?_
      refine r_aload_n X dX3_trueUp_27 (i := 0) rfl rfl ?_
      refine r_iload_n X dX3_trueUp_28 (i := 1) rfl rfl ?_
      refine r_callV X (c_X3_beyond hnt hw (by first | with_reducible assumption | with_reducible rfl | omega | (with_reducible (repeat (first | assumption | refine DM_t ?_ | refine DM_ms rfl ?_ | refine DM_gr ?_ | refine DM_nd ?_ | refine DM_tk ?_ | refine DM_pt ?_ | refine DM_bg ?_ | refine DM_cs ?_ | refine DM_kv ?_ | refine DM_bs ?_ | refine DM_co ?_ | refine DM_pu ?_)); done)) (by first | with_reducible assumption | with_reducible rfl | omega | (with_reducible (repeat (first | assumption | refine DM_t ?_ | refine DM_ms rfl ?_ | refine DM_gr ?_ | refine DM_nd ?_ | refine DM_tk ?_ | refine DM_pt ?_ | refine DM_bg ?_ | refine DM_cs ?_ | refine DM_kv ?_ | refine DM_bs ?_ | refine DM_co ?_ | refine DM_pu ?_)); done)) (by first | with_reducible assumption | with_reducible rfl | omega | (with_reducible (repeat (first | assumption | refine DM_t ?_ | refine DM_ms rfl ?_ | refine DM_gr ?_ | refine DM_nd ?_ | refine DM_tk ?_ | refine DM_pt ?_ | refine DM_bg ?_ | refine DM_cs ?_ | refine DM_kv ?_ | refine DM_bs ?_ | refine DM_co ?_ | refine DM_pu ?_)); done))) mw_X3_beyond kc3 mi_X3_beyond (hw.2 _ _ (by first | decide | (simp [cnt] <;> omega))) ev3 ml_X3_155 rfl rfl (Nat.le_of_ble_eq_true rfl) (by first | decide | (simp only [rmv]; omega)) (by first | decide | (simp only [rmv]; omega)) (by first | decide | (simp only [rmv]; omega)) (by first | decide | (simp only [rmv]; omega)) dX3_trueUp_29 (ko1 ?_)
      refine r_iadd X dX3_trueUp_32 ?_
      refine r_iast X (hw.2 _ _ (by first | decide | (simp [cnt] <;> omega))) (evA (by decide) (by decide)) (by first | with_reducible rfl | with_reducible assumption | (rw [pk_mul, nI_add])) (by first | with_reducible assumption | (simp [alen] <;> omega)) (by decide) rfl dX3_trueUp_33 (esA (by decide) (by decide)) ?_
      first | with_reducible refine r_iincn X dX3_trueUp_34 rfl (by decide) rfl ?_ | refine r_iinc1 X dX3_trueUp_34 rfl (by decide) rfl ?_
      refine r_goto X dX3_trueUp_37 (tgt := 12) (by decide) ?_
      have hM2 : M1 = itn tuH k (puM M) := hM
      exact ih (k + 1) _ (by omega) (by rw [itn, ← hM]; rfl) (by have h9 := DM_tu (DM_pu hD) (k + 1); rw [itn, ← hM] at h9; exact h9) (by rw [ms_o (fun h => absurd h.1 (by decide)), Mm_nd Mm.rf 3 0 3 rfl]; exact hE)

set_option maxHeartbeats 4000000 in
set_option maxRecDepth 100000 in
theorem c_X3_trueUp {l : Launch} {w : Wo} {M : Mem} {G : Lng}  (hnt : l.stackTraces = false) (hw : WK w) (hD : DM M) : CT l yX3_trueUp [Cond.code yX3_trueUp cX3_trueUp 2 (some .int)] 26 0 0 w [.ref (w.1 (3, 0))] M G (nTrueUp M G) := by
  refine CT_of hnt hw.1 mw_X3_trueUp (by simp [Value.category]) (Nat.le_of_ble_eq_true rfl) (fun p e s m args below meth c X => ?_)
  refine r_aload_n X dX3_trueUp_0 (i := 0) rfl rfl ?_
  refine r_iconst X dX3_trueUp_1 (v := nI 1) (by decide) ?_
  refine r_callV X (c_X3_noPurchase hnt hw (by first | with_reducible assumption | with_reducible rfl | omega | (with_reducible (repeat (first | assumption | refine DM_t ?_ | refine DM_ms rfl ?_ | refine DM_gr ?_ | refine DM_nd ?_ | refine DM_tk ?_ | refine DM_pt ?_ | refine DM_bg ?_ | refine DM_cs ?_ | refine DM_kv ?_ | refine DM_bs ?_ | refine DM_co ?_ | refine DM_pu ?_)); done))) mw_X3_noPurchase kc3 mi_X3_noPurchase (hw.2 _ _ (by first | decide | (simp [cnt] <;> omega))) ev3 ml_X3_165 rfl rfl (Nat.le_of_ble_eq_true rfl) (by first | decide | (simp only [rmv]; omega)) (by first | decide | (simp only [rmv]; omega)) (by first | decide | (simp only [rmv]; omega)) (by first | decide | (simp only [rmv]; omega)) dX3_trueUp_2 (ko1 ?_)
  first | with_reducible refine r_ifb_eq X dX3_trueUp_5 (tgt := 10) (by decide) (fun h1 => ?_) (fun h1 => ?_) | refine r_if_eq X dX3_trueUp_5 (tgt := 10) (by decide) (fun h1 => ?_) (fun h1 => ?_)
  · have hq : npA (M) = true := by simpa using h1
    rw [if_pos hq]
    refine r_iconst X dX3_trueUp_10 (v := nI 0) (by decide) ?_
    refine r_istore_n X dX3_trueUp_11 (i := 1) rfl (by decide) rfl ?_
    have ho : nTrueUp M G = okO (some (.int (tuN M 3 0 4))) (tuN M) (gs G (3, 0) (G (3, 0) + (tuN M 3 0 4).toInt64)) := by simp [nTrueUp, hq]
    rw [ho]
    exact lp_tum hnt hw X hD (ix (M 3 0 3)) 0 _ (by omega) (itn0 _ _).symm (DM_pu hD) (Mm_pu Mm.rf 3 0 3 rfl)
  · have hq : npA (M) = false := by simpa using h1
    rw [if_neg (by rw [hq]; decide)]
    refine r_iconst X dX3_trueUp_8 (v := nI 0) (by decide) ?_
    refine r_iret X dX3_trueUp_9 (by first | decide | (simp only [rmv]; omega)) (by first | decide | (simp only [rmv]; omega)) ?_
    first | with_reducible rfl | (simp [nTrueUp, hq]; done) | contradiction | with_reducible assumption

set_option maxHeartbeats 4000000 in
set_option maxRecDepth 100000 in
theorem c_X3_spent {l : Launch} {w : Wo} {M : Mem} {G : Lng}  (hnt : l.stackTraces = false) (hw : WK w)  : CT l yX3_spent [Cond.code yX3_spent cX3_spent 1 (some .long)] 1 0 0 w [.ref (w.1 (3, 0))] M G (okO (some (.long (G (3, 0)))) M G) := by
  refine CT_of hnt hw.1 mw_X3_spent (by simp [Value.category]) (Nat.le_of_ble_eq_true rfl) (fun p e s m args below meth c X => ?_)
  refine r_aload_n X dX3_spent_0 (i := 0) rfl rfl ?_
  refine r_get X kc3 (j := 5) (hw.2 _ _ (by first | decide | (simp [cnt] <;> omega))) ev3 (by decide) rfl fl_X3_168 dX3_spent_1 ?_
  refine r_lret X dX3_spent_4 (by first | decide | (simp only [rmv]; omega)) (by first | decide | (simp only [rmv]; omega)) ?_
  first | with_reducible rfl | (simp []; done) | contradiction | with_reducible assumption

end N4
