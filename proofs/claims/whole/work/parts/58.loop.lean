/-! THE LAW'S LOOP -/
section Loop
variable {p : Program} {l : Launch} {e : Env} {s : State} {m : MethodId} {args : Array Value} {below : List Frame} {meth : Method} {c : Code} {cells slots : Nat} {Q : State → Prop} {hh : List (Nat × Nat × Nat × Nat)} {w : Wo} {b L : Nat} {xs : Nat → Int32} {M : Mem} {G : Lng} {j : Nat} {st : List Value} {lv : List (Option Value)} {E : Nat × Nat → va_E}
theorem and31 (x : Int32) : ∃ q, q < 32 ∧ x &&& nI 31 = nI q := by
  refine ⟨(x.toBitVec &&& 31#32).toNat, ?_, ?_⟩
  · rw [BitVec.toNat_and]
    exact Nat.lt_of_le_of_lt Nat.and_le_right (by decide)
  · apply Int32.toBitVec_inj.mp
    unfold nI
    simp
theorem neg8 : ∀ L : Fin 8, nI L.val - nI 8 < 0 := by decide
theorem gt_8 {L j : Nat} (hL : L ≤ 4096) (hj : 8 * j ≤ 5000) : (nI L - nI 8 < nI (8 * j)) = (L < 8 * j + 8) := by
  by_cases h : L < 8
  · have h1 := neg8 ⟨L, h⟩
    have h2 : (0 : Int32) ≤ nI (8 * j) := (nI_leI (show 0 < 2 ^ 31 by omega) (by omega)).mpr (Nat.zero_le _)
    have h3 : nI L - nI 8 < nI (8 * j) := Int32.lt_of_lt_of_le h1 h2
    exact propext ⟨fun _ => by omega, fun _ => h3⟩
  · rw [sub_n (by omega), nI_ltI (by omega) (by omega)]
    exact propext (by omega)
theorem r_tab (X : Cx p l room_1 s m args meth c cL_law 8 RL (some .boolean) hh w) {q tgt : Nat} {off : Int} (h1 : ¬ (nI q).toInt < 0) (h2 : ¬ 28 < (nI q).toInt) (ho : (#[131, 263, 319, 399, 479, 547, 560, 585, 705, 845, 913, 981, 1049, 1105, 1173, 1229, 1285, 1341, 1354, 1398, 1454, 1510, 1566, 1622, 1666, 1710, 1766, 1810, 1824] : Array Int)[((nI q).toInt - 0).toNat]? = some off) (ht : ((45 : Nat) : Int) + off = (tgt : Int)) (k : VE p l e room_1 s m args below meth c cells slots Q 8 w tgt lv st E) : VE p l e room_1 s m args below meth c cells slots Q 8 w 45 lv (.int (nI q) :: st) E := fun H locs ls hP hS hL => lv_tableIn X.x X.b dL_law_45 h1 h2 ho ht (k H locs ls hP hS hL)
theorem r_tabO (X : Cx p l room_1 s m args meth c cL_law 8 RL (some .boolean) hh w) {q : Nat} (h1 : (nI q).toInt < 0 ∨ 28 < (nI q).toInt) (k : VE p l e room_1 s m args below meth c cells slots Q 8 w 1935 lv st E) : VE p l e room_1 s m args below meth c cells slots Q 8 w 45 lv (.int (nI q) :: st) E := fun H locs ls hP hS hL => lv_tableOut X.x X.b dL_law_45 h1 (tgt := 1935) (by decide) (k H locs ls hP hS hL)
set_option maxHeartbeats 4000000 in
set_option maxRecDepth 100000 in
theorem lc_switch (hX : LX p l s m args meth c hh w b L xs) (hI : INV M) (hG : G (2, 0) = G (3, 0)) (hj : 8 * j + 7 < L) (hcs : cells + 16 ≤ room_1.cells) (hss : slots + 96 ≤ room_1.slots) (K : KK p l e s m args below meth c cells slots Q w b j) (q : Nat) (hq : q < 32) : VE p l e room_1 s m args below meth c cells slots Q 8 w 45 (lvL w b (nI (8 * j)) none none) [.int (nI q)] (ev w M G) := by
  rcases (show q = 0 ∨ q = 1 ∨ q = 2 ∨ q = 3 ∨ q = 4 ∨ q = 5 ∨ q = 6 ∨ q = 7 ∨ q = 8 ∨ q = 9 ∨ q = 10 ∨ q = 11 ∨ q = 12 ∨ q = 13 ∨ q = 14 ∨ q = 15 ∨ q = 16 ∨ q = 17 ∨ q = 18 ∨ q = 19 ∨ q = 20 ∨ q = 21 ∨ q = 22 ∨ q = 23 ∨ q = 24 ∨ q = 25 ∨ q = 26 ∨ q = 27 ∨ q = 28 ∨ q = 29 ∨ q = 30 ∨ q = 31 by omega) with rfl | rfl | rfl | rfl | rfl | rfl | rfl | rfl | rfl | rfl | rfl | rfl | rfl | rfl | rfl | rfl | rfl | rfl | rfl | rfl | rfl | rfl | rfl | rfl | rfl | rfl | rfl | rfl | rfl | rfl | rfl | rfl
  · exact r_tab hX.1 (tgt := 176) (off := 131) (by decide) (by decide) rfl (by decide) (lc_install hX hI hG hj hcs hss K)
  · exact r_tab hX.1 (tgt := 308) (off := 263) (by decide) (by decide) rfl (by decide) (lc_retire hX hI hG hj hcs hss K)
  · exact r_tab hX.1 (tgt := 364) (off := 319) (by decide) (by decide) rfl (by decide) (lc_moveTo hX hI hG hj hcs hss K)
  · exact r_tab hX.1 (tgt := 444) (off := 399) (by decide) (by decide) rfl (by decide) (lc_setVersion hX hI hG hj hcs hss K)
  · exact r_tab hX.1 (tgt := 524) (off := 479) (by decide) (by decide) rfl (by decide) (lc_setPool hX hI hG hj hcs hss K)
  · exact r_tab hX.1 (tgt := 592) (off := 547) (by decide) (by decide) rfl (by decide) (lc_installs hX hI hG hcs hss K)
  · exact r_tab hX.1 (tgt := 605) (off := 560) (by decide) (by decide) rfl (by decide) (lc_isThere hX hI hG hj hcs hss K)
  · exact r_tab hX.1 (tgt := 630) (off := 585) (by decide) (by decide) rfl (by decide) (lc_entitle hX hI hG hj hcs hss K)
  · exact r_tab hX.1 (tgt := 750) (off := 705) (by decide) (by decide) rfl (by decide) (lc_setRights hX hI hG hj hcs hss K)
  · exact r_tab hX.1 (tgt := 890) (off := 845) (by decide) (by decide) rfl (by decide) (lc_setMinimum hX hI hG hj hcs hss K)
  · exact r_tab hX.1 (tgt := 958) (off := 913) (by decide) (by decide) rfl (by decide) (lc_setPrice hX hI hG hj hcs hss K)
  · exact r_tab hX.1 (tgt := 1026) (off := 981) (by decide) (by decide) rfl (by decide) (lc_addUnits hX hI hG hj hcs hss K)
  · exact r_tab hX.1 (tgt := 1094) (off := 1049) (by decide) (by decide) rfl (by decide) (lc_units hX hI hG hj hcs hss K)
  · exact r_tab hX.1 (tgt := 1150) (off := 1105) (by decide) (by decide) rfl (by decide) (lc_why hX hI hG hj hcs hss K)
  · exact r_tab hX.1 (tgt := 1218) (off := 1173) (by decide) (by decide) rfl (by decide) (lc_fitting hX hI hG hj hcs hss K)
  · exact r_tab hX.1 (tgt := 1274) (off := 1229) (by decide) (by decide) rfl (by decide) (lc_firstFitting hX hI hG hj hcs hss K)
  · exact r_tab hX.1 (tgt := 1330) (off := 1285) (by decide) (by decide) rfl (by decide) (lc_unitsForAll hX hI hG hj hcs hss K)
  · exact r_tab hX.1 (tgt := 1386) (off := 1341) (by decide) (by decide) rfl (by decide) (lc_covered hX hI hG hcs hss K)
  · exact r_tab hX.1 (tgt := 1399) (off := 1354) (by decide) (by decide) rfl (by decide) (lc_coveredByTrying hX hI hG hj hcs hss K)
  · exact r_tab hX.1 (tgt := 1443) (off := 1398) (by decide) (by decide) rfl (by decide) (lc_entitlementOf hX hI hG hj hcs hss K)
  · exact r_tab hX.1 (tgt := 1499) (off := 1454) (by decide) (by decide) rfl (by decide) (lc_reason hX hI hG hj hcs hss K)
  · exact r_tab hX.1 (tgt := 1555) (off := 1510) (by decide) (by decide) rfl (by decide) (lc_used hX hI hG hj hcs hss K)
  · exact r_tab hX.1 (tgt := 1611) (off := 1566) (by decide) (by decide) rfl (by decide) (lc_spare hX hI hG hj hcs hss K)
  · exact r_tab hX.1 (tgt := 1667) (off := 1622) (by decide) (by decide) rfl (by decide) (lc_purchase hX hI hG hj hcs hss K)
  · exact r_tab hX.1 (tgt := 1711) (off := 1666) (by decide) (by decide) rfl (by decide) (lc_purchaseByTrying hX hI hG hj hcs hss K)
  · exact r_tab hX.1 (tgt := 1755) (off := 1710) (by decide) (by decide) rfl (by decide) (lc_toBuy hX hI hG hj hcs hss K)
  · exact r_tab hX.1 (tgt := 1811) (off := 1766) (by decide) (by decide) rfl (by decide) (lc_trueUp hX hI hG hj hcs hss K)
  · exact r_tab hX.1 (tgt := 1855) (off := 1810) (by decide) (by decide) rfl (by decide) (lc_spent hX hI hG hcs hss K)
  · exact r_tab hX.1 (tgt := 1869) (off := 1824) (by decide) (by decide) rfl (by decide) (lc_coverage hX hI hG hcs hss K)
  · exact r_tabO hX.1 (by decide) (VE_widen (by omega) (by omega) (K M G none none hI hG))
  · exact r_tabO hX.1 (by decide) (VE_widen (by omega) (by omega) (K M G none none hI hG))
  · exact r_tabO hX.1 (by decide) (VE_widen (by omega) (by omega) (K M G none none hI hG))
set_option maxHeartbeats 4000000 in
set_option maxRecDepth 100000 in
theorem lw_loop (hX : LX p l s m args meth c hh w b L xs) (hRc : 600000 ≤ room_1.cells) (hRs : 7000000 ≤ room_1.slots)
    (KE : ∀ M G i cells slots, cells ≤ 600000 → slots ≤ 7000000 → VE p l e room_1 s m args below meth c cells slots Q 8 w 1941 (lvL w b i none none) [] (ev w M G)) :
    ∀ n j M G cells slots, L < 8 * (j + n) + 8 → 8 * j ≤ 4200 → n ≤ 513 → cells + 16 * n ≤ 590000 → slots + 96 * n ≤ 6900000 → INV M → G (2, 0) = G (3, 0) → VE p l e room_1 s m args below meth c cells slots Q 8 w 28 (lvL w b (nI (8 * j)) none none) [] (ev w M G) := by
  intro n
  induction n with
  | zero =>
    intro j M G cells slots hn hj hn5 hc hs hI hG
    have hL := hX.2.2.2.2.2.2
    refine r_iload hX.1 dL_law_28 rfl ?_
    refine r_aload_n hX.1 dL_law_30 (i := 0) rfl rfl ?_
    intro H locs ls hP hS hLv
    refine va_slen hX.1.x hX.1.b hX.2.2.2.1 hX.2.2.2.2.1 hX.2.2.2.2.2.1 hS dL_law_31 ?_
    revert H locs ls
    show VE p l e room_1 s m args below meth c cells slots Q 8 w 32 (lvL w b (nI (8 * j)) none none) [.int (nI L), .int (nI (8 * j))] (ev w M G)
    refine r_bipush hX.1 dL_law_32 (v := nI 8) (by decide) ?_
    refine r_isub hX.1 dL_law_34 ?_
    refine r_icmp_gt hX.1 dL_law_35 (tgt := 1941) (by decide) (fun _ => KE M G _ cells slots (by omega) (by omega)) (fun h => ?_)
    rw [gt_8 hL (by omega)] at h
    omega
  | succ n ih =>
    intro j M G cells slots hn hj hn5 hc hs hI hG
    have hL := hX.2.2.2.2.2.2
    refine r_iload hX.1 dL_law_28 rfl ?_
    refine r_aload_n hX.1 dL_law_30 (i := 0) rfl rfl ?_
    intro H locs ls hP hS hLv
    refine va_slen hX.1.x hX.1.b hX.2.2.2.1 hX.2.2.2.2.1 hX.2.2.2.2.2.1 hS dL_law_31 ?_
    revert H locs ls
    show VE p l e room_1 s m args below meth c cells slots Q 8 w 32 (lvL w b (nI (8 * j)) none none) [.int (nI L), .int (nI (8 * j))] (ev w M G)
    refine r_bipush hX.1 dL_law_32 (v := nI 8) (by decide) ?_
    refine r_isub hX.1 dL_law_34 ?_
    refine r_icmp_gt hX.1 dL_law_35 (tgt := 1941) (by decide) (fun _ => KE M G _ cells slots (by omega) (by omega)) (fun h => ?_)
    rw [gt_8 hL (by omega)] at h
    refine r_aload_n hX.1 dL_law_38 (i := 0) rfl rfl ?_
    refine r_iload hX.1 dL_law_39 rfl ?_
    intro H locs ls hP hS hLv
    refine va_sld hX.1.x hX.1.b hX.2.2.2.1 hX.2.2.2.2.1 hX.2.2.2.2.2.1 hS (vp_in_nI (n := 8 * j) (by omega) (by omega)) dL_law_41 ?_
    rw [nI_clamp (by omega)]
    revert H locs ls
    show VE p l e room_1 s m args below meth c cells slots Q 8 w 42 (lvL w b (nI (8 * j)) none none) [.int (xs (8 * j))] (ev w M G)
    refine r_bipush hX.1 dL_law_42 (v := nI 31) (by decide) ?_
    refine r_iand hX.1 dL_law_44 ?_
    obtain ⟨q, hq, hx⟩ := and31 (xs (8 * j))
    rw [hx]
    refine lc_switch hX hI hG (by omega) (by omega) (by omega) (fun M2 G2 a6 a7 hI2 hG2 => ?_) q hq
    refine r_lv (lv2 := lvL w b (nI (8 * j)) none none) ⟨.inr rfl, .inr rfl, .inr rfl, .inr rfl, .inr rfl, .inr rfl, .inl rfl, .inl rfl, trivial⟩ ?_
    refine r_iinc hX.1 dL_law_1935 rfl (v := nI (8 * (j + 1))) (by
      show nI (8 * j) + nI 8 = _
      rw [nI_add]
      congr 1) (by decide) (lv2 := lvL w b (nI (8 * (j + 1))) none none) rfl ?_
    refine r_goto hX.1 dL_law_1938 (tgt := 28) (by decide) ?_
    exact ih (j + 1) M2 G2 (cells + 16) (slots + 96) (by omega) (by omega) (by omega) (by omega) (by omega) hI2 hG2
end Loop
