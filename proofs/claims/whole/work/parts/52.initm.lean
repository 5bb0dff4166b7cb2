/-! THE MODEL IS MADE -/
section InitM
def lM (w : Wo) (n : Nat) : List Value := [.int 0, .int 0, .int 0, .int 0, .int 0, .long 0] ++ (List.range 22).map (fun j => rf (decide (j < n)) (w.1 (10 + j, 0)))
def eM (w : Wo) (n : Nat) (k : Nat × Nat) : va_E := if k = (3, 0) then .inr (3, lM w n) else if k.1 = 3 then jk else ev w Z0 Zg k
theorem lM_len {w : Wo} {n : Nat} : (lM w n).length = 28 := by simp [lM]
theorem lM_s {w : Wo} {n : Nat} (hn : n < 22) : (lM w n).set (6 + n) (.ref (w.1 (10 + n, 0))) = lM w (n + 1) := by
  apply List.ext_getElem?
  intro i
  by_cases hi : 6 + n = i
  · subst hi
    rw [List.getElem?_set_self (by rw [lM_len]; omega)]
    unfold lM
    rw [List.getElem?_append_right (by simp)]
    simp [hn, rf]
  · rw [List.getElem?_set_ne hi]
    unfold lM
    by_cases h6 : i < 6
    · rw [List.getElem?_append_left (by simpa using h6), List.getElem?_append_left (by simpa using h6)]
    · rw [List.getElem?_append_right (by simpa using h6), List.getElem?_append_right (by simpa using h6)]
      simp only [List.getElem?_map, List.length_cons, List.length_nil]
      by_cases h22 : i - 6 < 22
      · have e : (List.range 22)[i - (0 + 1 + 1 + 1 + 1 + 1 + 1)]? = some (i - 6) := List.getElem?_range h22
        rw [e]
        simp only [Option.map_some]
        rw [show decide (i - 6 < n + 1) = decide (i - 6 < n) by simp only [show (i - 6 < n + 1) = (i - 6 < n) from propext (by omega)]]
      · have e : (List.range 22)[i - (0 + 1 + 1 + 1 + 1 + 1 + 1)]? = none := List.getElem?_eq_none (by simp; omega)
        rw [e]
        rfl
theorem lM_ag {w w2 : Wo} {n : Nat} (h : ∀ j, j < n → w2.1 (10 + j, 0) = w.1 (10 + j, 0)) : lM w2 n = lM w n := by
  unfold lM
  congr 1
  exact List.map_congr_left (fun j _ => rf_cg (fun z => h j (of_decide_eq_true z)))
theorem ev_gr {w w2 : Wo} (hc : w2.2.2 = w.2.2) {key k : Nat × Nat} (hk : 10 ≤ key.1) (hg : ∀ k2, k2 ≠ key → w2.1 k2 = w.1 k2) (h3 : k.1 ≠ 3) : ev w2 Z0 Zg k = ev w Z0 Zg k := by
  have hd : ∀ c i, c < 10 → w2.1 (c, i) = w.1 (c, i) := fun c i h => hg _ (fun z => by rw [← z] at hk; simp at hk; omega)
  unfold ev
  rw [hd 9 k.2 (by omega), hd 4 0 (by omega), hd 5 0 (by omega), hd 6 0 (by omega), hd 7 0 (by omega), hd 8 0 (by omega), if_neg h3, if_neg h3, hc]
  simp only [hd 1 _ (by omega : 1 < 10), hd 0 _ (by omega : 0 < 10)]
theorem eM_ag {w w2 : Wo} {n : Nat} {key : Nat × Nat} (hc : w2.2.2 = w.2.2) (hk : key = (10 + n, 0)) (hg : ∀ k2, k2 ≠ key → w2.1 k2 = w.1 k2) (k : Nat × Nat) : eM w2 n k = eM w n k := by
  unfold eM
  rw [lM_ag (fun j hj => hg _ (fun z => by rw [hk] at z; have := congrArg Prod.fst z; simp at this; omega))]
  by_cases h3 : k = (3, 0)
  · rw [if_pos h3, if_pos h3]
  · rw [if_neg h3, if_neg h3]
    by_cases h : k.1 = 3
    · rw [if_pos h, if_pos h]
    · rw [if_neg h, if_neg h, ev_gr hc (by rw [hk]; exact Nat.le_add_right _ _) hg h]
theorem eM_s {w : Wo} {n : Nat} (hn : n < 22) : eset (eM w n) (3, 0) (.inr (3, (lM w n).set (6 + n) (.ref (w.1 (10 + n, 0))))) = eM w (n + 1) := by
  funext k
  unfold eset eM
  rw [lM_s hn]
  by_cases h3 : k = (3, 0)
  · rw [if_pos h3, if_pos h3]
  · rw [if_neg h3, if_neg h3, if_neg h3]
def kM (n : Nat) : List (Nat × Nat) := (List.range n).map (fun j => (10 + j, 0))
theorem kM_s (n : Nat) : kM (n + 1) = kM n ++ [(10 + n, 0)] := by simp [kM, List.range_succ]
theorem kM_m {n : Nat} {k : Nat × Nat} : k ∈ kM n ↔ k.2 = 0 ∧ 10 ≤ k.1 ∧ k.1 < 10 + n := by
  unfold kM
  simp only [List.mem_map, List.mem_range]
  constructor
  · rintro ⟨j, h1, h2⟩
    subst h2
    exact ⟨rfl, by simp, by simp; omega⟩
  · rintro ⟨h1, h2, h3⟩
    exact ⟨k.1 - 10, by omega, Prod.ext (show 10 + (k.1 - 10) = k.1 by omega) h1.symm⟩
variable {p : Program} {l : Launch} {e : Env} {R : Room} {s : State} {m : MethodId} {args : Array Value} {below : List Frame} {meth : Method} {c : Code} {cells slots : Nat} {Q : State → Prop} {hh : List (Nat × Nat × Nat × Nat)} {w : Wo}
/-- one array more: aload_0, its length, newarray, putfield -/
theorem st_X3 {n t0 N pc index dpc : Nat} {atype : ArrayType} {ty : FieldType} {w0 : Wo} (hin : meth.name = "<init>") (X : Cx p l R s m args meth c cX3_init 1 yX3_init.cls none hh w) (h0 : ∀ k ∈ w0.2.1, k.1 < 10) (h03 : (3, 0) ∈ w0.2.1) (hG : WG w0 w (kM n) s.heap.size) (hn : n < 22)
    (hty : newarray.typeOf atype = ty) (ht : (tyl w.2.2.2)[t0]? = some (w.2.2.2 t0, ty)) (ha : ∀ cA : ClassId, vp_cell cA (N, .inl (fun _ => 0)) = arrV cA N (fun _ => defaultValue ty)) (hN : N < 1000) (hb : componentBytes ty ≤ 8) (harr : Cond.arrayClass (newarray.typeOf atype) ∈ lw_tbl) (hat : aty (10 + n) = t0) (hal : alen (10 + n) = N) (hev : ∀ w2 : Wo, ev w2 Z0 Zg (10 + n, 0) = .inl (w2.2.2.2 (aty (10 + n)), (alen (10 + n), .inl (fun _ => 0))))
    (hR : cells + 1 ≤ R.cells ∧ slots + N ≤ R.slots) (hw : Cond.fieldLink RX3 index RX3 (TX3 (6 + n)).2.1 (TX3 (6 + n)).2.2.1 ∈ lw_tbl) (hfin : (TX3 (6 + n)).2.2.2 = true) (hnr : ∀ a, narrow (tyX3 (6 + n)) (.ref a) = .ref a) (hft : ∀ a, fits (tyX3 (6 + n)) (.ref a) = true)
    (d0 : decode cX3_init pc = .ok (.aload_n 0, 1)) (d1 : ∀ (w : Wo) (E : Nat × Nat → va_E) (lv : List (Option Value)) (st : List Value), Cx p l R s m args meth c cX3_init 1 yX3_init.cls none hh w → VE p l e R s m args below meth c cells slots Q 1 w dpc lv (.int (nI N) :: st) E → VE p l e R s m args below meth c cells slots Q 1 w (pc + 1) lv st E) (d2 : decode cX3_init dpc = .ok (.newarray atype, 2)) (d3 : decode cX3_init (dpc + 2) = .ok (.putfield index, 3))
    (kk : ∀ w2, WG w0 w2 (kM (n + 1)) s.heap.size → Cx p l R s m args meth c cX3_init 1 yX3_init.cls none hh w2 → VE p l e R s m args below meth c (cells + 1) (slots + N) Q 1 w2 (dpc + 2 + 3) [some (.ref (w2.1 (3, 0)))] [] (eM w2 (n + 1))) :
    VE p l e R s m args below meth c cells slots Q 1 w pc [some (.ref (w.1 (3, 0)))] [] (eM w n) := by
  have k3 : (3, 0) ∈ w.2.1 := by rw [hG.1]; exact List.mem_append_left _ h03
  have kn : (10 + n, 0) ∉ w.2.1 := by
    rw [hG.1]
    intro z
    rcases List.mem_append.mp z with z | z
    · have h9 : 10 + n < 10 := h0 _ z
      omega
    · have := kM_m.mp z; simp at this
  refine r_aload_n X d0 (i := 0) rfl rfl ?_
  refine d1 _ _ _ _ X ?_
  have hnn : ¬ nI N < 0 := fun z => by
    have h1 := (nI_ltI (show N < 2 ^ 31 by omega) (show 0 < 2 ^ 31 by omega)).mp z
    omega
  refine r_newa X (key := (10 + n, 0)) (atype := atype) (ty := ty) (t0 := t0) (N := N) (a0 := (N, .inl (fun _ => 0))) (E2 := fun w2 => eM w2 n) kn hty ht ha hnn (nI_clamp (by omega)) ?_ harr hR.1 hR.2 d2 (fun w2 hW => ⟨?_, fun k hk => eM_ag hW.2.1 rfl (fun k2 h2 => hW.2.2.2.2.2 k2 (by simpa using h2)) k⟩) (fun w2 hW X2 => ?_)
  · have := Nat.mul_le_mul (show N ≤ 1000 by omega) hb
    omega
  · unfold eM
    rw [if_neg (fun z => by have := congrArg Prod.fst z; simp at this; omega), if_neg (show ¬ 10 + n = 3 by omega), hev, hat, hal, hW.2.1]
  have e3 : w.1 (3, 0) = w2.1 (3, 0) := (hW.2.2.1 _ k3).symm
  have k32 : (3, 0) ∈ w2.2.1 := by rw [hW.1]; exact List.mem_append_left _ k3
  have hG2 := hG.tr hW
  rw [← kM_s] at hG2
  rw [e3]
  exact r_putF X2 (key := (3, 0)) (j := 6 + n) (ci := 3) (fs := lM w2 n) (N := 28) (T := TX3) (ty := tyX3) (E2 := eM w2 (n + 1)) hin kc3 k32 (if_pos rfl) (by omega) (by rw [lM_len]; omega) hw hfin (hnr _) (hft _) d3 (eM_s hn) (kk w2 hG2 X2)
set_option maxHeartbeats 4000000 in
set_option maxRecDepth 100000 in
theorem c_X3_init (hnt : l.stackTraces = false) (hwi : WI w) (h0 : ∀ k ∈ w.2.1, k.1 < 10) (h03 : (3, 0) ∈ w.2.1) : CTn l yX3_init [Cond.code yX3_init cX3_init 1 none] 10 22 187 w [.ref (w.1 (3, 0))] KT (eM w 0) (kM 22) (fun w2 => eM w2 22) := by
  refine CTn_of hnt hwi mw_X3_init (by simp [Value.category]) (Nat.le_of_ble_eq_true rfl) (fun p e s m args below meth c hh X hin _ => ?_)
  refine r_aload_n X dX3_init_0 (i := 0) rfl rfl ?_
  refine r_objInit X wo_X3 wo1 wo2 (by simp only [rmv]; omega) (Nat.le_of_ble_eq_true rfl) dX3_init_1 ?_
  have hG := WG.rf (w := w) (sz := s.heap.size) hwi
  refine st_X3 (n := 0) (t0 := 0) (N := 12) (pc := 4) (index := 7) (dpc := 7) (atype := .int) (ty := .int) hin X h0 h03 hG (by decide) rfl rfl (fun _ => rfl) (by decide) (by decide) wa_I rfl rfl (fun _ => rfl) ⟨by simp only [rmv]; omega, by simp only [rmv]; omega⟩ fl_X3_7 rfl (fun _ => rfl) (fun _ => rfl) dX3_init_4 (fun _ _ _ _ X h => r_bipush X dX3_init_5 (v := nI 12) (by decide) h) dX3_init_7 dX3_init_9 (fun w0 hG0 X0 => ?_)
  refine st_X3 (n := 1) (t0 := 0) (N := 12) (pc := 12) (index := 13) (dpc := 15) (atype := .int) (ty := .int) hin X0 h0 h03 hG0 (by decide) rfl rfl (fun _ => rfl) (by decide) (by decide) wa_I rfl rfl (fun _ => rfl) ⟨by simp only [rmv]; omega, by simp only [rmv]; omega⟩ fl_X3_13 rfl (fun _ => rfl) (fun _ => rfl) dX3_init_12 (fun _ _ _ _ X h => r_bipush X dX3_init_13 (v := nI 12) (by decide) h) dX3_init_15 dX3_init_17 (fun w1 hG1 X1 => ?_)
  refine st_X3 (n := 2) (t0 := 0) (N := 12) (pc := 20) (index := 16) (dpc := 23) (atype := .int) (ty := .int) hin X1 h0 h03 hG1 (by decide) rfl rfl (fun _ => rfl) (by decide) (by decide) wa_I rfl rfl (fun _ => rfl) ⟨by simp only [rmv]; omega, by simp only [rmv]; omega⟩ fl_X3_16 rfl (fun _ => rfl) (fun _ => rfl) dX3_init_20 (fun _ _ _ _ X h => r_bipush X dX3_init_21 (v := nI 12) (by decide) h) dX3_init_23 dX3_init_25 (fun w2 hG2 X2 => ?_)
  refine st_X3 (n := 3) (t0 := 0) (N := 12) (pc := 28) (index := 19) (dpc := 31) (atype := .int) (ty := .int) hin X2 h0 h03 hG2 (by decide) rfl rfl (fun _ => rfl) (by decide) (by decide) wa_I rfl rfl (fun _ => rfl) ⟨by simp only [rmv]; omega, by simp only [rmv]; omega⟩ fl_X3_19 rfl (fun _ => rfl) (fun _ => rfl) dX3_init_28 (fun _ _ _ _ X h => r_bipush X dX3_init_29 (v := nI 12) (by decide) h) dX3_init_31 dX3_init_33 (fun w3 hG3 X3 => ?_)
  refine st_X3 (n := 4) (t0 := 0) (N := 12) (pc := 36) (index := 22) (dpc := 39) (atype := .int) (ty := .int) hin X3 h0 h03 hG3 (by decide) rfl rfl (fun _ => rfl) (by decide) (by decide) wa_I rfl rfl (fun _ => rfl) ⟨by simp only [rmv]; omega, by simp only [rmv]; omega⟩ fl_X3_22 rfl (fun _ => rfl) (fun _ => rfl) dX3_init_36 (fun _ _ _ _ X h => r_bipush X dX3_init_37 (v := nI 12) (by decide) h) dX3_init_39 dX3_init_41 (fun w4 hG4 X4 => ?_)
  refine st_X3 (n := 5) (t0 := 0) (N := 12) (pc := 44) (index := 25) (dpc := 47) (atype := .int) (ty := .int) hin X4 h0 h03 hG4 (by decide) rfl rfl (fun _ => rfl) (by decide) (by decide) wa_I rfl rfl (fun _ => rfl) ⟨by simp only [rmv]; omega, by simp only [rmv]; omega⟩ fl_X3_25 rfl (fun _ => rfl) (fun _ => rfl) dX3_init_44 (fun _ _ _ _ X h => r_bipush X dX3_init_45 (v := nI 12) (by decide) h) dX3_init_47 dX3_init_49 (fun w5 hG5 X5 => ?_)
  refine st_X3 (n := 6) (t0 := 0) (N := 12) (pc := 52) (index := 28) (dpc := 55) (atype := .int) (ty := .int) hin X5 h0 h03 hG5 (by decide) rfl rfl (fun _ => rfl) (by decide) (by decide) wa_I rfl rfl (fun _ => rfl) ⟨by simp only [rmv]; omega, by simp only [rmv]; omega⟩ fl_X3_28 rfl (fun _ => rfl) (fun _ => rfl) dX3_init_52 (fun _ _ _ _ X h => r_bipush X dX3_init_53 (v := nI 12) (by decide) h) dX3_init_55 dX3_init_57 (fun w6 hG6 X6 => ?_)
  refine st_X3 (n := 7) (t0 := 1) (N := 12) (pc := 60) (index := 31) (dpc := 63) (atype := .boolean) (ty := .boolean) hin X6 h0 h03 hG6 (by decide) rfl rfl (fun _ => rfl) (by decide) (by decide) wa_B rfl rfl (fun _ => rfl) ⟨by simp only [rmv]; omega, by simp only [rmv]; omega⟩ fl_X3_31 rfl (fun _ => rfl) (fun _ => rfl) dX3_init_60 (fun _ _ _ _ X h => r_bipush X dX3_init_61 (v := nI 12) (by decide) h) dX3_init_63 dX3_init_65 (fun w7 hG7 X7 => ?_)
  refine st_X3 (n := 8) (t0 := 1) (N := 5) (pc := 68) (index := 35) (dpc := 70) (atype := .boolean) (ty := .boolean) hin X7 h0 h03 hG7 (by decide) rfl rfl (fun _ => rfl) (by decide) (by decide) wa_B rfl rfl (fun _ => rfl) ⟨by simp only [rmv]; omega, by simp only [rmv]; omega⟩ fl_X3_35 rfl (fun _ => rfl) (fun _ => rfl) dX3_init_68 (fun _ _ _ _ X h => r_iconst X dX3_init_69 (v := nI 5) (by decide) h) dX3_init_70 dX3_init_72 (fun w8 hG8 X8 => ?_)
  refine st_X3 (n := 9) (t0 := 1) (N := 5) (pc := 75) (index := 38) (dpc := 77) (atype := .boolean) (ty := .boolean) hin X8 h0 h03 hG8 (by decide) rfl rfl (fun _ => rfl) (by decide) (by decide) wa_B rfl rfl (fun _ => rfl) ⟨by simp only [rmv]; omega, by simp only [rmv]; omega⟩ fl_X3_38 rfl (fun _ => rfl) (fun _ => rfl) dX3_init_75 (fun _ _ _ _ X h => r_iconst X dX3_init_76 (v := nI 5) (by decide) h) dX3_init_77 dX3_init_79 (fun w9 hG9 X9 => ?_)
  refine st_X3 (n := 10) (t0 := 1) (N := 5) (pc := 82) (index := 41) (dpc := 84) (atype := .boolean) (ty := .boolean) hin X9 h0 h03 hG9 (by decide) rfl rfl (fun _ => rfl) (by decide) (by decide) wa_B rfl rfl (fun _ => rfl) ⟨by simp only [rmv]; omega, by simp only [rmv]; omega⟩ fl_X3_41 rfl (fun _ => rfl) (fun _ => rfl) dX3_init_82 (fun _ _ _ _ X h => r_iconst X dX3_init_83 (v := nI 5) (by decide) h) dX3_init_84 dX3_init_86 (fun w10 hG10 X10 => ?_)
  refine st_X3 (n := 11) (t0 := 0) (N := 5) (pc := 89) (index := 44) (dpc := 91) (atype := .int) (ty := .int) hin X10 h0 h03 hG10 (by decide) rfl rfl (fun _ => rfl) (by decide) (by decide) wa_I rfl rfl (fun _ => rfl) ⟨by simp only [rmv]; omega, by simp only [rmv]; omega⟩ fl_X3_44 rfl (fun _ => rfl) (fun _ => rfl) dX3_init_89 (fun _ _ _ _ X h => r_iconst X dX3_init_90 (v := nI 5) (by decide) h) dX3_init_91 dX3_init_93 (fun w11 hG11 X11 => ?_)
  refine st_X3 (n := 12) (t0 := 0) (N := 5) (pc := 96) (index := 47) (dpc := 98) (atype := .int) (ty := .int) hin X11 h0 h03 hG11 (by decide) rfl rfl (fun _ => rfl) (by decide) (by decide) wa_I rfl rfl (fun _ => rfl) ⟨by simp only [rmv]; omega, by simp only [rmv]; omega⟩ fl_X3_47 rfl (fun _ => rfl) (fun _ => rfl) dX3_init_96 (fun _ _ _ _ X h => r_iconst X dX3_init_97 (v := nI 5) (by decide) h) dX3_init_98 dX3_init_100 (fun w12 hG12 X12 => ?_)
  refine st_X3 (n := 13) (t0 := 0) (N := 5) (pc := 103) (index := 50) (dpc := 105) (atype := .int) (ty := .int) hin X12 h0 h03 hG12 (by decide) rfl rfl (fun _ => rfl) (by decide) (by decide) wa_I rfl rfl (fun _ => rfl) ⟨by simp only [rmv]; omega, by simp only [rmv]; omega⟩ fl_X3_50 rfl (fun _ => rfl) (fun _ => rfl) dX3_init_103 (fun _ _ _ _ X h => r_iconst X dX3_init_104 (v := nI 5) (by decide) h) dX3_init_105 dX3_init_107 (fun w13 hG13 X13 => ?_)
  refine st_X3 (n := 14) (t0 := 0) (N := 5) (pc := 110) (index := 53) (dpc := 112) (atype := .int) (ty := .int) hin X13 h0 h03 hG13 (by decide) rfl rfl (fun _ => rfl) (by decide) (by decide) wa_I rfl rfl (fun _ => rfl) ⟨by simp only [rmv]; omega, by simp only [rmv]; omega⟩ fl_X3_53 rfl (fun _ => rfl) (fun _ => rfl) dX3_init_110 (fun _ _ _ _ X h => r_iconst X dX3_init_111 (v := nI 5) (by decide) h) dX3_init_112 dX3_init_114 (fun w14 hG14 X14 => ?_)
  refine st_X3 (n := 15) (t0 := 0) (N := 5) (pc := 117) (index := 56) (dpc := 119) (atype := .int) (ty := .int) hin X14 h0 h03 hG14 (by decide) rfl rfl (fun _ => rfl) (by decide) (by decide) wa_I rfl rfl (fun _ => rfl) ⟨by simp only [rmv]; omega, by simp only [rmv]; omega⟩ fl_X3_56 rfl (fun _ => rfl) (fun _ => rfl) dX3_init_117 (fun _ _ _ _ X h => r_iconst X dX3_init_118 (v := nI 5) (by decide) h) dX3_init_119 dX3_init_121 (fun w15 hG15 X15 => ?_)
  refine st_X3 (n := 16) (t0 := 0) (N := 5) (pc := 124) (index := 59) (dpc := 126) (atype := .int) (ty := .int) hin X15 h0 h03 hG15 (by decide) rfl rfl (fun _ => rfl) (by decide) (by decide) wa_I rfl rfl (fun _ => rfl) ⟨by simp only [rmv]; omega, by simp only [rmv]; omega⟩ fl_X3_59 rfl (fun _ => rfl) (fun _ => rfl) dX3_init_124 (fun _ _ _ _ X h => r_iconst X dX3_init_125 (v := nI 5) (by decide) h) dX3_init_126 dX3_init_128 (fun w16 hG16 X16 => ?_)
  refine st_X3 (n := 17) (t0 := 0) (N := 5) (pc := 131) (index := 62) (dpc := 133) (atype := .int) (ty := .int) hin X16 h0 h03 hG16 (by decide) rfl rfl (fun _ => rfl) (by decide) (by decide) wa_I rfl rfl (fun _ => rfl) ⟨by simp only [rmv]; omega, by simp only [rmv]; omega⟩ fl_X3_62 rfl (fun _ => rfl) (fun _ => rfl) dX3_init_131 (fun _ _ _ _ X h => r_iconst X dX3_init_132 (v := nI 5) (by decide) h) dX3_init_133 dX3_init_135 (fun w17 hG17 X17 => ?_)
  refine st_X3 (n := 18) (t0 := 2) (N := 5) (pc := 138) (index := 65) (dpc := 140) (atype := .char) (ty := .char) hin X17 h0 h03 hG17 (by decide) rfl rfl (fun _ => rfl) (by decide) (by decide) wa_C rfl rfl (fun _ => rfl) ⟨by simp only [rmv]; omega, by simp only [rmv]; omega⟩ fl_X3_65 rfl (fun _ => rfl) (fun _ => rfl) dX3_init_138 (fun _ _ _ _ X h => r_iconst X dX3_init_139 (v := nI 5) (by decide) h) dX3_init_140 dX3_init_142 (fun w18 hG18 X18 => ?_)
  refine st_X3 (n := 19) (t0 := 0) (N := 12) (pc := 145) (index := 69) (dpc := 148) (atype := .int) (ty := .int) hin X18 h0 h03 hG18 (by decide) rfl rfl (fun _ => rfl) (by decide) (by decide) wa_I rfl rfl (fun _ => rfl) ⟨by simp only [rmv]; omega, by simp only [rmv]; omega⟩ fl_X3_69 rfl (fun _ => rfl) (fun _ => rfl) dX3_init_145 (fun _ _ _ _ X h => r_bipush X dX3_init_146 (v := nI 12) (by decide) h) dX3_init_148 dX3_init_150 (fun w19 hG19 X19 => ?_)
  refine st_X3 (n := 20) (t0 := 0) (N := 12) (pc := 153) (index := 72) (dpc := 156) (atype := .int) (ty := .int) hin X19 h0 h03 hG19 (by decide) rfl rfl (fun _ => rfl) (by decide) (by decide) wa_I rfl rfl (fun _ => rfl) ⟨by simp only [rmv]; omega, by simp only [rmv]; omega⟩ fl_X3_72 rfl (fun _ => rfl) (fun _ => rfl) dX3_init_153 (fun _ _ _ _ X h => r_bipush X dX3_init_154 (v := nI 12) (by decide) h) dX3_init_156 dX3_init_158 (fun w20 hG20 X20 => ?_)
  refine st_X3 (n := 21) (t0 := 0) (N := 4) (pc := 161) (index := 75) (dpc := 163) (atype := .int) (ty := .int) hin X20 h0 h03 hG20 (by decide) rfl rfl (fun _ => rfl) (by decide) (by decide) wa_I rfl rfl (fun _ => rfl) ⟨by simp only [rmv]; omega, by simp only [rmv]; omega⟩ fl_X3_75 rfl (fun _ => rfl) (fun _ => rfl) dX3_init_161 (fun _ _ _ _ X h => r_iconst X dX3_init_162 (v := nI 4) (by decide) h) dX3_init_163 dX3_init_165 (fun w21 hG21 X21 => ?_)
  exact r_retN X21 hG21 dX3_init_168 (by omega) (by omega) (fun _ _ => rfl)
end InitM
