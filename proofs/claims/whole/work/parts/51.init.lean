/-! CONSTRUCTORS -/
section Init
theorem wo1 : Cond.instanceMethod objectInit ∈ lw_tbl := tb (List.mem_of_getElem? (i := 21) (by decide +kernel))
theorem wo2 : Cond.code objectInit ⟨#[0xb1]⟩ 1 none ∈ lw_tbl := tb (List.mem_of_getElem? (i := 22) (by decide +kernel))
theorem wo_X2 : Cond.methodLink RX2 1 objectInit ∈ lw_tbl := tb (List.mem_of_getElem? (i := 20) (by decide +kernel))
theorem wo_X1 : Cond.methodLink RX1 1 objectInit ∈ lw_tbl := tb (List.mem_of_getElem? (i := 29) (by decide +kernel))
theorem wo_X0 : Cond.methodLink RX0 3 objectInit ∈ lw_tbl := tb (List.mem_of_getElem? (i := 75) (by decide +kernel))
theorem wo_X3 : Cond.methodLink RX3 1 objectInit ∈ lw_tbl := tb (List.mem_of_getElem? (i := 657) (by decide +kernel))
theorem wc_X2_9 : Cond.classLink RX2 9 RX1 ∈ lw_tbl := tb (List.mem_of_getElem? (i := 23) (by decide +kernel))
theorem wc_X2_16 : Cond.classLink RX2 16 RX0 ∈ lw_tbl := tb (List.mem_of_getElem? (i := 69) (by decide +kernel))
theorem wn_X1 : Cond.instantiable RX1 8 ∈ lw_tbl := tb (List.mem_of_getElem? (i := 25) (by decide +kernel))
theorem wn_X0 : Cond.instantiable RX0 13 ∈ lw_tbl := tb (List.mem_of_getElem? (i := 71) (by decide +kernel))
theorem wn_X2 : Cond.instantiable RX2 10 ∈ lw_tbl := tb (List.mem_of_getElem? (i := 16) (by decide +kernel))
theorem wn_X3 : Cond.instantiable RX3 28 ∈ lw_tbl := tb (List.mem_of_getElem? (i := 653) (by decide +kernel))
theorem wi_RX2 : Cond.initialized RX2 ∈ lw_tbl := tb (List.mem_of_getElem? (i := 1) (by decide +kernel))
theorem wi_RX1 : Cond.initialized RX1 ∈ lw_tbl := tb (List.mem_of_getElem? (i := 2) (by decide +kernel))
theorem wi_RX0 : Cond.initialized RX0 ∈ lw_tbl := tb (List.mem_of_getElem? (i := 3) (by decide +kernel))
theorem wi_RX3 : Cond.initialized RX3 ∈ lw_tbl := tb (List.mem_of_getElem? (i := 4) (by decide +kernel))
theorem wc_L_8 : Cond.classLink RL 8 RX2 ∈ lw_tbl := tb (List.mem_of_getElem? (i := 15) (by decide +kernel))
theorem wc_L_105 : Cond.classLink RL 105 RX3 ∈ lw_tbl := tb (List.mem_of_getElem? (i := 652) (by decide +kernel))
theorem wa_I : Cond.arrayClass .int ∈ lw_tbl := tb (List.mem_of_getElem? (i := 124) (by decide +kernel))
theorem wa_B : Cond.arrayClass .boolean ∈ lw_tbl := tb (List.mem_of_getElem? (i := 743) (by decide +kernel))
theorem wa_C : Cond.arrayClass .char ∈ lw_tbl := tb (List.mem_of_getElem? (i := 744) (by decide +kernel))
theorem wa_L : Cond.arrayClass .long ∈ lw_tbl := tb (List.mem_of_getElem? (i := 945) (by decide +kernel))
theorem wa_D : Cond.arrayClass .double ∈ lw_tbl := tb (List.mem_of_getElem? (i := 946) (by decide +kernel))
theorem wq_1 : Cond.arrayOver (.object RX1) ∈ lw_tbl := tb (List.mem_of_getElem? (i := 24) (by decide +kernel))
theorem wq_0 : Cond.arrayOver (.object RX0) ∈ lw_tbl := tb (List.mem_of_getElem? (i := 70) (by decide +kernel))
def Z0 : Mem := fun _ _ _ => 0
def Zg : Lng := fun _ => 0
abbrev KT : State → Prop := fun _ => True
def jk : va_E := .inr (0, [])
def rf (b : Bool) (a : Nat) : Value := if b = true then .ref a else .null
/-- the class while it is made: q fields of its own set, i installs, e entitlements, e9 of them with their arrays -/
def eC (w : Wo) (q i e e9 : Nat) (k : Nat × Nat) : va_E :=
  if k = (2, 0) then .inr (2, [rf (decide (1 ≤ q)) (w.1 (4, 0)), rf (decide (2 ≤ q)) (w.1 (5, 0)), .int 0, .int 0, .int 0, .long 0, rf (decide (3 ≤ q)) (w.1 (6, 0)), rf (decide (4 ≤ q)) (w.1 (7, 0)), rf (decide (5 ≤ q)) (w.1 (8, 0)), .int 0])
  else if k = (4, 0) then .inl (w.2.2.2 6, (12, .inr (.inr (.inr (.inr (fun j => if j < i ∨ 12 ≤ j then some (w.1 (1, j)) else none))))))
  else if k = (5, 0) then .inl (w.2.2.2 5, (5, .inr (.inr (.inr (.inr (fun j => if j < e ∨ 5 ≤ j then some (w.1 (0, j)) else none))))))
  else if k.1 = 0 then .inr (0, [.int 0, .int 0, .int 0, .int 0, .int 0, .int 0, .int 0, .int 0, .int 0, .int 0, .int 0, rf (decide (k.2 < e9)) (w.1 (9, k.2)), .int 0])
  else if k.1 = 2 ∨ k.1 = 3 ∨ k.1 = 4 ∨ k.1 = 5 then jk
  else ev w Z0 Zg k
theorem ev_cc {w w2 : Wo} (hc : w2.2.2 = w.2.2) {k : Nat × Nat} (h0 : ¬ k.1 = 0) (h : ¬ (k.1 = 2 ∨ k.1 = 3 ∨ k.1 = 4 ∨ k.1 = 5)) : ev w2 Z0 Zg k = ev w Z0 Zg k := by
  unfold ev
  rw [if_neg h0, if_neg h0, if_neg (show ¬ k.1 = 2 by omega), if_neg (show ¬ k.1 = 2 by omega), if_neg (show ¬ k.1 = 3 by omega), if_neg (show ¬ k.1 = 3 by omega), if_neg (show ¬ k.1 = 4 by omega), if_neg (show ¬ k.1 = 4 by omega), if_neg (show ¬ k.1 = 5 by omega), if_neg (show ¬ k.1 = 5 by omega), hc]
theorem rf_cg {b : Bool} {x y : Nat} (h : b = true → x = y) : rf b x = rf b y := by
  cases b
  · rfl
  · rw [h rfl]
theorem eC_ag {w w2 : Wo} {q i e e9 : Nat} (hc : w2.2.2 = w.2.2) (h4 : 1 ≤ q → w2.1 (4, 0) = w.1 (4, 0)) (h5 : 2 ≤ q → w2.1 (5, 0) = w.1 (5, 0)) (h6 : 3 ≤ q → w2.1 (6, 0) = w.1 (6, 0)) (h7 : 4 ≤ q → w2.1 (7, 0) = w.1 (7, 0)) (h8 : 5 ≤ q → w2.1 (8, 0) = w.1 (8, 0)) (h1 : ∀ j, j < i ∨ 12 ≤ j → w2.1 (1, j) = w.1 (1, j)) (h0 : ∀ j, j < e ∨ 5 ≤ j → w2.1 (0, j) = w.1 (0, j)) (h9 : ∀ j, j < e9 → w2.1 (9, j) = w.1 (9, j)) (k : Nat × Nat) : eC w2 q i e e9 k = eC w q i e e9 k := by
  unfold eC
  rw [rf_cg (fun z => h4 (of_decide_eq_true z)), rf_cg (fun z => h5 (of_decide_eq_true z)), rf_cg (fun z => h6 (of_decide_eq_true z)), rf_cg (fun z => h7 (of_decide_eq_true z)), rf_cg (fun z => h8 (of_decide_eq_true z)), rf_cg (fun z => h9 k.2 (of_decide_eq_true z)), hc]
  rw [show (fun j => if j < i ∨ 12 ≤ j then some (w2.1 (1, j)) else none) = (fun j => if j < i ∨ 12 ≤ j then some (w.1 (1, j)) else none) from funext fun j => by
    by_cases hj : j < i ∨ 12 ≤ j
    · rw [if_pos hj, if_pos hj, h1 j hj]
    · rw [if_neg hj, if_neg hj]]
  rw [show (fun j => if j < e ∨ 5 ≤ j then some (w2.1 (0, j)) else none) = (fun j => if j < e ∨ 5 ≤ j then some (w.1 (0, j)) else none) from funext fun j => by
    by_cases hj : j < e ∨ 5 ≤ j
    · rw [if_pos hj, if_pos hj, h0 j hj]
    · rw [if_neg hj, if_neg hj]]
  by_cases a0 : k.1 = 0
  · simp only [a0, if_true]
  · by_cases a1 : k.1 = 2 ∨ k.1 = 3 ∨ k.1 = 4 ∨ k.1 = 5
    · simp only [a1, if_true]
    · rw [ev_cc hc a0 a1]
variable {l : Launch} {w : Wo}
set_option maxHeartbeats 4000000 in
set_option maxRecDepth 100000 in
theorem c_X1_init {i : Nat} {E : Nat × Nat → va_E} (hnt : l.stackTraces = false) (hwi : WI w) : CTn l yX1_init [Cond.code yX1_init cX1_init 1 none] 1 0 0 w [.ref (w.1 (1, i))] KT E [] (fun _ => E) := by
  refine CTn_of hnt hwi mw_X1_init (by simp [Value.category]) (Nat.le_of_ble_eq_true rfl) (fun p e s m args below meth c hh X hin _ => ?_)
  refine r_aload_n X dX1_init_0 (i := 0) rfl rfl ?_
  refine r_objInit X wo_X1 wo1 wo2 (by simp only [rmv]; omega) (Nat.le_of_ble_eq_true rfl) dX1_init_1 ?_
  exact r_retN X (WG.rf hwi) dX1_init_4 (Nat.le_refl _) (Nat.le_refl _) (fun _ _ => rfl)
def eE (E : Nat × Nat → va_E) (fs : List Value) (e9 : Nat) (w : Wo) (k : Nat × Nat) : va_E := if k = (9, e9) then .inl (w.2.2.2 0, (40, .inl (fun _ => 0))) else if k = (0, e9) then .inr (0, fs.set 11 (.ref (w.1 (9, e9)))) else E k
set_option maxHeartbeats 4000000 in
set_option maxRecDepth 100000 in
theorem c_X0_init {i : Nat} {E : Nat × Nat → va_E} {fs : List Value} (hnt : l.stackTraces = false) (hwi : WI w) (hk : (0, i) ∈ w.2.1) (hk9 : (9, i) ∉ w.2.1) (hE : E (0, i) = .inr (0, fs)) (hfs : fs.length = 13) : CTn l yX0_init [Cond.code yX0_init cX0_init 1 none] 1 1 40 w [.ref (w.1 (0, i))] KT E [(9, i)] (eE E fs i) := by
  refine CTn_of hnt hwi mw_X0_init (by simp [Value.category]) (Nat.le_of_ble_eq_true rfl) (fun p e s m args below meth c hh X hin _ => ?_)
  refine r_aload_n X dX0_init_0 (i := 0) rfl rfl ?_
  refine r_objInit X wo_X0 wo1 wo2 (by simp only [rmv]; omega) (Nat.le_of_ble_eq_true rfl) dX0_init_1 ?_
  refine r_aload_n X dX0_init_4 (i := 0) rfl rfl ?_
  refine r_bipush X dX0_init_5 (v := nI 40) (by decide) ?_
  refine r_newa X (key := (9, i)) (atype := .int) (ty := .int) (t0 := 0) (N := 40) (a0 := (40, .inl (fun _ => 0))) (E2 := fun w2 k => if k = (9, i) then .inl (w.2.2.2 0, (40, .inl (fun _ => 0))) else E k) hk9 rfl rfl (fun _ => rfl) (by decide) (by decide) (Nat.le_of_ble_eq_true rfl) wa_I (by simp only [rmv]; omega) (by simp only [rmv]; omega) dX0_init_7 (fun w2 _ => ⟨if_pos rfl, fun k hk => if_neg (fun z => hk9 (by rw [← z]; exact hk))⟩) (fun w2 hG X2 => ?_)
  have hne : (0, i) ≠ (9, i) := fun z => by cases z
  have e1 : w.1 (0, i) = w2.1 (0, i) := (hG.2.2.1 _ hk).symm
  have hk2 : (0, i) ∈ w2.2.1 := by rw [hG.1]; exact List.mem_append_left _ hk
  rw [e1]
  refine r_putF X2 (key := (0, i)) (j := 11) (ci := 0) (fs := fs) (N := 13) (T := TX0) (ty := tyX0) (E2 := eE E fs i w2) hin kc0 hk2 (by rw [if_neg hne]; exact hE) (by decide) (by rw [hfs]; decide) fl_X0_9 rfl rfl rfl dX0_init_9 (funext fun k => ?_) ?_
  · show (if k = (0, i) then _ else if k = (9, i) then _ else E k) = (if k = (9, i) then _ else if k = (0, i) then _ else E k)
    by_cases h9 : k = (9, i)
    · subst h9
      rw [if_neg hne.symm, if_pos rfl, if_pos rfl, hG.2.1]
    · rw [if_neg h9, if_neg h9]
  · exact r_retN X2 hG dX0_init_12 (by omega) (by omega) (fun _ _ => rfl)
def kI (n : Nat) : List (Nat × Nat) := (List.range n).map (fun j => (1, j))
def kE (n : Nat) : List (Nat × Nat) := (List.range n).flatMap (fun j => [(0, j), (9, j)])
theorem kI_s (n : Nat) : kI (n + 1) = kI n ++ [(1, n)] := by simp [kI, List.range_succ]
theorem kE_s (n : Nat) : kE (n + 1) = kE n ++ [(0, n), (9, n)] := by simp [kE, List.range_succ]
theorem kI_m {n c j : Nat} : (c, j) ∈ kI n ↔ c = 1 ∧ j < n := by
  unfold kI
  simp only [List.mem_map, List.mem_range, Prod.mk.injEq]
  exact ⟨fun ⟨a, h1, h2, h3⟩ => ⟨h2.symm, by omega⟩, fun ⟨h1, h2⟩ => ⟨j, h2, h1.symm, rfl⟩⟩
theorem kE_m {n c j : Nat} : (c, j) ∈ kE n ↔ (c = 0 ∨ c = 9) ∧ j < n := by
  unfold kE
  simp only [List.mem_flatMap, List.mem_range, List.mem_cons, List.not_mem_nil, or_false, Prod.mk.injEq]
  constructor
  · rintro ⟨a, h1, ⟨h2, h3⟩ | ⟨h2, h3⟩⟩
    · exact ⟨.inl h2, by omega⟩
    · exact ⟨.inr h2, by omega⟩
  · rintro ⟨h1 | h1, h2⟩
    · exact ⟨j, h2, .inl ⟨h1, rfl⟩⟩
    · exact ⟨j, h2, .inr ⟨h1, rfl⟩⟩
theorem WG.nil {w w2 : Wo} {sz : Nat} (h : WG w w2 [] sz) : w2 = w := by
  have h1 : w2.1 = w.1 := funext fun k => h.2.2.2.2.2 k (by simp)
  have h2 : w2.2.1 = w.2.1 := by rw [h.1, List.append_nil]
  exact Prod.ext h1 (Prod.ext h2 h.2.1)
theorem eC_i {w : Wo} {q i e e9 : Nat} : eset (eC w q i e e9) (4, 0) (.inl (w.2.2.2 6, (12, .inr (.inr (.inr (.inr (va_up (fun j => if j < i ∨ 12 ≤ j then some (w.1 (1, j)) else none) i (some (w.1 (1, i)))))))))) = eC w q (i + 1) e e9 := by
  funext k
  unfold eset eC
  by_cases h4 : k = (4, 0)
  · subst h4
    rw [if_pos rfl, if_neg (by decide), if_pos rfl]
    congr 7
    funext j
    unfold va_up
    by_cases hj : j = i
    · subst hj; rw [if_pos rfl, if_pos (by omega)]
    · rw [if_neg hj]
      dsimp only
      by_cases h2 : j < i ∨ 12 ≤ j
      · rw [if_pos h2, if_pos (by omega)]
      · rw [if_neg h2, if_neg (by omega)]
  · rw [if_neg h4, if_neg h4, if_neg h4]
theorem eC_e {w : Wo} {q i e e9 : Nat} : eset (eC w q i e e9) (5, 0) (.inl (w.2.2.2 5, (5, .inr (.inr (.inr (.inr (va_up (fun j => if j < e ∨ 5 ≤ j then some (w.1 (0, j)) else none) e (some (w.1 (0, e)))))))))) = eC w q i (e + 1) e9 := by
  funext k
  unfold eset eC
  by_cases h4 : k = (5, 0)
  · subst h4
    rw [if_pos rfl, if_neg (by decide), if_neg (by decide), if_pos rfl]
    congr 7
    funext j
    unfold va_up
    by_cases hj : j = e
    · subst hj; rw [if_pos rfl, if_pos (by omega)]
    · rw [if_neg hj]
      dsimp only
      by_cases h2 : j < e ∨ 5 ≤ j
      · rw [if_pos h2, if_pos (by omega)]
      · rw [if_neg h2, if_neg (by omega)]
  · rw [if_neg h4, if_neg h4, if_neg h4]
/-- the class's own fields at the stage q -/
def fC (w : Wo) (q : Nat) : List Value := [rf (decide (1 ≤ q)) (w.1 (4, 0)), rf (decide (2 ≤ q)) (w.1 (5, 0)), .int 0, .int 0, .int 0, .long 0, rf (decide (3 ≤ q)) (w.1 (6, 0)), rf (decide (4 ≤ q)) (w.1 (7, 0)), rf (decide (5 ≤ q)) (w.1 (8, 0)), .int 0]
theorem eC_2 {w : Wo} {q i e e9 : Nat} : eC w q i e e9 (2, 0) = .inr (2, fC w q) := rfl
theorem eC_q {w : Wo} {q q2 i e e9 : Nat} {fs : List Value} (h : fs = fC w q2) : eset (eC w q i e e9) (2, 0) (.inr (2, fs)) = eC w q2 i e e9 := by
  subst h
  funext k
  unfold eset
  by_cases h2 : k = (2, 0)
  · subst h2; rw [if_pos rfl]; rfl
  · rw [if_neg h2]
    unfold eC
    rw [if_neg h2, if_neg h2]
variable {p : Program} {e : Env} {R : Room} {s : State} {m : MethodId} {args : Array Value} {below : List Frame} {meth : Method} {c : Code} {Q : State → Prop} {hh : List (Nat × Nat × Nat × Nat)}
set_option maxHeartbeats 4000000 in
set_option maxRecDepth 100000 in
theorem lp_X2i (hnt : l.stackTraces = false) {w0 : Wo} (h0 : w0.2.1 = [(2, 0)]) (hR : 10 ≤ R.frames ∧ 200 ≤ R.locals ∧ 27 ≤ R.cells ∧ 415 ≤ R.slots)
    (kk : ∀ w, WG w0 w ((4, 0) :: kI 12) s.heap.size → Cx p l R s m args meth c cX2_init 2 yX2_init.cls none hh w → VE p l e R s m args below meth c 13 108 Q 2 w 40 [some (.ref (w.1 (2, 0))), some (.int (nI 12))] [] (eC w 1 12 0 0)) :
    ∀ n i w, i + n = 12 → WG w0 w ((4, 0) :: kI i) s.heap.size → Cx p l R s m args meth c cX2_init 2 yX2_init.cls none hh w → VE p l e R s m args below meth c (1 + i) (12 + 8 * i) Q 2 w 15 [some (.ref (w.1 (2, 0))), some (.int (nI i))] [] (eC w 1 i 0 0) := by
  intro n
  induction n with
  | zero =>
    intro i w hi hG X
    have hi : i = 12 := by omega
    subst hi
    refine r_iload_n X dX2_init_15 (i := 1) rfl rfl ?_
    refine r_bipush X dX2_init_16 (v := nI 12) (by decide) ?_
    refine r_icmpn_ge X dX2_init_18 (tgt := 40) (by decide) (by omega) (by omega) (fun h1 => ?_) (fun h1 => ?_)
    · exact kk w hG X
    · omega
  | succ n ih =>
    intro i w hi hG X
    have k2 : (2, 0) ∈ w.2.1 := by rw [hG.1, h0]; simp
    have k4 : (4, 0) ∈ w.2.1 := by rw [hG.1, h0]; simp
    have kn : (1, i) ∉ w.2.1 := by
      rw [hG.1, h0]
      intro z
      rcases List.mem_append.mp z with z | z
      · simp at z
      · rcases List.mem_cons.mp z with z | z
        · simp at z
        · have := kI_m.mp z; omega
    refine r_iload_n X dX2_init_15 (i := 1) rfl rfl ?_
    refine r_bipush X dX2_init_16 (v := nI 12) (by decide) ?_
    refine r_icmpn_ge X dX2_init_18 (tgt := 40) (by decide) (by omega) (by omega) (fun h1 => ?_) (fun h1 => ?_)
    · omega
    refine r_aload_n X dX2_init_21 (i := 0) rfl rfl ?_
    refine r_get X kc2 k2 eC_2 (j := 0) (by decide) rfl fl_X2_11 dX2_init_22 ?_
    refine r_iload_n X dX2_init_25 (i := 1) rfl rfl ?_
    refine r_new X (key := (1, i)) (ci := 1) (N := 8) (C := RX1) (T := TX1) (ty := tyX1) (fs := [.int 0, .int 0, .int 0, .int 0, .int 0, .int 0, .int 0, .int 0]) (E2 := fun w2 => eC w2 1 i 0 0) kc1 kn (fun j hj => by rcases (show j = 0 ∨ j = 1 ∨ j = 2 ∨ j = 3 ∨ j = 4 ∨ j = 5 ∨ j = 6 ∨ j = 7 by omega) with rfl | rfl | rfl | rfl | rfl | rfl | rfl | rfl <;> rfl) wc_X2_9 wn_X1 wi_RX1 (by omega) (by omega) dX2_init_26 (fun w2 hW => ⟨rfl, fun k _ => ?_⟩) (fun w2 hW X2 => ?_)
    · have hd : ∀ k2, k2 ≠ (1, i) → w2.1 k2 = w.1 k2 := fun k2 h2 => hW.2.2.2.2.2 k2 (by simpa using h2)
      exact eC_ag hW.2.1 (fun _ => hd _ (by simp)) (fun _ => hd _ (by simp)) (fun _ => hd _ (by simp)) (fun _ => hd _ (by simp)) (fun _ => hd _ (by simp)) (fun j hj => hd _ (fun z => by have := congrArg Prod.snd z; simp at this; omega)) (fun j hj => hd _ (by simp)) (fun j hj => hd _ (by simp)) k
    have hG2 := hG.tr hW
    have e2 : w.1 (2, 0) = w2.1 (2, 0) := (hW.2.2.1 _ k2).symm
    have e4 : w.1 (4, 0) = w2.1 (4, 0) := (hW.2.2.1 _ k4).symm
    have k21 : (1, i) ∈ w2.2.1 := by rw [hW.1]; simp
    have k24 : (4, 0) ∈ w2.2.1 := by rw [hW.1]; exact List.mem_append_left _ k4
    rw [e2]
    rw [show rf (decide (1 ≤ 1)) (w.1 (4, 0)) = .ref (w2.1 (4, 0)) by rw [e4]; rfl]
    refine r_dup X2 dX2_init_29 rfl ?_
    refine r_callN X2 (key := (1, i)) (rest := [.ref (w2.1 (1, i)), .int (nI i), .ref (w2.1 (4, 0))]) (c_X1_init hnt X2.wi) (fun _ _ _ _ h => h) (fun _ _ => trivial) mw_X1_init rfl mi_X1_init ml_X2_15 rfl rfl (by simp [Value.category]) (by omega) (by omega) (by omega) (by omega) dX2_init_30 (fun w3 hW3 X3 => ?_)
    have h3 := hW3.nil
    subst h3
    refine r_astq X2 (key := (4, 0)) (kv := (1, i)) (t0 := 6) (ci := 1) (n := 12) (j := i) (r := (RX1, TX1, 8)) k24 k21 rfl rfl rfl rfl rfl (by omega) (by omega) dX2_init_33 eC_i ?_
    refine r_iincn X2 dX2_init_34 rfl (by decide) rfl ?_
    refine r_goto X2 dX2_init_37 (tgt := 15) (by decide) ?_
    have hk : (4, 0) :: kI i ++ [(1, i)] = (4, 0) :: kI (i + 1) := by rw [kI_s]; rfl
    rw [hk] at hG2
    have h5 := ih (i + 1) w3 (by omega) hG2 X2
    rw [show 1 + (i + 1) = 1 + i + 1 + 0 by omega, show 12 + 8 * (i + 1) = 12 + 8 * i + 8 + 0 by omega] at h5
    exact h5
def f0E : List Value := [.int 0, .int 0, .int 0, .int 0, .int 0, .int 0, .int 0, .int 0, .int 0, .int 0, .int 0, .null, .int 0]
theorem eC_0 {w : Wo} {q i e9 : Nat} : eC w q i e9 e9 (0, e9) = .inr (0, f0E) := by simp [eC, rf, f0E]
set_option maxHeartbeats 4000000 in
set_option maxRecDepth 100000 in
theorem lp_X2e (hnt : l.stackTraces = false) {w0 : Wo} (h0 : w0.2.1 = [(2, 0)]) (hR : 10 ≤ R.frames ∧ 200 ≤ R.locals ∧ 27 ≤ R.cells ∧ 415 ≤ R.slots)
    (kk : ∀ w, WG w0 w ((4, 0) :: kI 12 ++ (5, 0) :: kE 5) s.heap.size → Cx p l R s m args meth c cX2_init 2 yX2_init.cls none hh w → VE p l e R s m args below meth c 24 378 Q 2 w 74 [some (.ref (w.1 (2, 0))), some (.int (nI 5))] [] (eC w 2 12 5 5)) :
    ∀ n i w, i + n = 5 → WG w0 w ((4, 0) :: kI 12 ++ (5, 0) :: kE i) s.heap.size → Cx p l R s m args meth c cX2_init 2 yX2_init.cls none hh w → VE p l e R s m args below meth c (14 + 2 * i) (113 + 53 * i) Q 2 w 50 [some (.ref (w.1 (2, 0))), some (.int (nI i))] [] (eC w 2 12 i i) := by
  intro n
  induction n with
  | zero =>
    intro i w hi hG X
    have hi : i = 5 := by omega
    subst hi
    refine r_iload_n X dX2_init_50 (i := 1) rfl rfl ?_
    refine r_iconst X dX2_init_51 (v := nI 5) (by decide) ?_
    refine r_icmpn_ge X dX2_init_52 (tgt := 74) (by decide) (by omega) (by omega) (fun h1 => ?_) (fun h1 => ?_)
    · exact kk w hG X
    · omega
  | succ n ih =>
    intro i w hi hG X
    have k2 : (2, 0) ∈ w.2.1 := by rw [hG.1, h0]; simp
    have k5 : (5, 0) ∈ w.2.1 := by rw [hG.1, h0]; simp
    have kn : ∀ b, (b = 0 ∨ b = 9) → (b, i) ∉ w.2.1 := by
      intro b hb
      rw [hG.1, h0]
      intro z
      rcases List.mem_append.mp z with z | z
      · simp at z; omega
      · rcases List.mem_append.mp z with z | z
        · rcases List.mem_cons.mp z with z | z
          · simp at z; omega
          · have := kI_m.mp z; omega
        · rcases List.mem_cons.mp z with z | z
          · simp at z; omega
          · have := kE_m.mp z; omega
    refine r_iload_n X dX2_init_50 (i := 1) rfl rfl ?_
    refine r_iconst X dX2_init_51 (v := nI 5) (by decide) ?_
    refine r_icmpn_ge X dX2_init_52 (tgt := 74) (by decide) (by omega) (by omega) (fun h1 => ?_) (fun h1 => ?_)
    · omega
    refine r_aload_n X dX2_init_55 (i := 0) rfl rfl ?_
    refine r_get X kc2 k2 eC_2 (j := 1) (by decide) rfl fl_X2_18 dX2_init_56 ?_
    refine r_iload_n X dX2_init_59 (i := 1) rfl rfl ?_
    refine r_new X (key := (0, i)) (ci := 0) (N := 13) (C := RX0) (T := TX0) (ty := tyX0) (fs := f0E) (E2 := fun w2 => eC w2 2 12 i i) kc0 (kn 0 (.inl rfl)) (fun j hj => by rcases (show j = 0 ∨ j = 1 ∨ j = 2 ∨ j = 3 ∨ j = 4 ∨ j = 5 ∨ j = 6 ∨ j = 7 ∨ j = 8 ∨ j = 9 ∨ j = 10 ∨ j = 11 ∨ j = 12 by omega) with rfl | rfl | rfl | rfl | rfl | rfl | rfl | rfl | rfl | rfl | rfl | rfl | rfl <;> rfl) wc_X2_16 wn_X0 wi_RX0 (by omega) (by omega) dX2_init_60 (fun w2 hW => ⟨eC_0, fun k _ => ?_⟩) (fun w2 hW X2 => ?_)
    · have hd : ∀ k2, k2 ≠ (0, i) → w2.1 k2 = w.1 k2 := fun k2 h2 => hW.2.2.2.2.2 k2 (by simpa using h2)
      exact eC_ag hW.2.1 (fun _ => hd _ (by simp)) (fun _ => hd _ (by simp)) (fun _ => hd _ (by simp)) (fun _ => hd _ (by simp)) (fun _ => hd _ (by simp)) (fun j hj => hd _ (by simp)) (fun j hj => hd _ (fun z => by have := congrArg Prod.snd z; simp at this; omega)) (fun j hj => hd _ (by simp)) k
    have hG2 := hG.tr hW
    have k20 : (0, i) ∈ w2.2.1 := by rw [hW.1]; simp
    have k29 : (9, i) ∉ w2.2.1 := by
      rw [hW.1]
      intro z
      rcases List.mem_append.mp z with z | z
      · exact kn 9 (.inr rfl) z
      · simp at z
    refine r_dup X2 dX2_init_63 rfl ?_
    refine r_callN X2 (key := (0, i)) (rest := [.ref (w2.1 (0, i)), .int (nI i), rf (decide (2 ≤ 2)) (w.1 (5, 0))]) (c_X0_init hnt X2.wi k20 k29 eC_0 rfl) (fun _ _ _ _ h => h) (fun _ _ => trivial) mw_X0_init rfl mi_X0_init ml_X2_22 rfl rfl (by simp [Value.category, rf]) (by omega) (by omega) (by omega) (by omega) dX2_init_64 (fun w3 hW3 X3 => ?_)
    have hG3 := hG2.tr hW3
    have hd3 : ∀ k2, k2 ≠ (9, i) → w3.1 k2 = w2.1 k2 := fun k2 h2 => hW3.2.2.2.2.2 k2 (by simpa using h2)
    have e2 : w.1 (2, 0) = w3.1 (2, 0) := by rw [hd3 _ (by simp)]; exact (hW.2.2.1 _ k2).symm
    have e5 : w.1 (5, 0) = w3.1 (5, 0) := by rw [hd3 _ (by simp)]; exact (hW.2.2.1 _ k5).symm
    have e0 : w2.1 (0, i) = w3.1 (0, i) := (hd3 _ (by simp)).symm
    have k30 : (0, i) ∈ w3.2.1 := by rw [hW3.1]; exact List.mem_append_left _ k20
    have k35 : (5, 0) ∈ w3.2.1 := by rw [hW3.1, hW.1]; exact List.mem_append_left _ (List.mem_append_left _ k5)
    refine VE_cong (E2 := eC w3 2 12 i (i + 1)) (fun k _ => ?_) ?_
    · have hag : eC w3 2 12 i i k = eC w2 2 12 i i k := eC_ag hW3.2.1 (fun _ => hd3 _ (by simp)) (fun _ => hd3 _ (by simp)) (fun _ => hd3 _ (by simp)) (fun _ => hd3 _ (by simp)) (fun _ => hd3 _ (by simp)) (fun j hj => hd3 _ (by simp)) (fun j hj => hd3 _ (by simp)) (fun j hj => hd3 _ (fun z => by have := congrArg Prod.snd z; simp at this; omega)) k
      unfold eE
      by_cases h9 : k = (9, i)
      · subst h9
        rw [if_pos rfl]
        rfl
      · rw [if_neg h9]
        by_cases h00 : k = (0, i)
        · subst h00
          rw [if_pos rfl]
          simp [eC, rf, f0E]
        · rw [if_neg h00, ← hag]
          unfold eC
          by_cases a0 : k.1 = 0
          · have hki : k.2 ≠ i := fun z => h00 (Prod.ext a0 z)
            rw [show decide (k.2 < i + 1) = decide (k.2 < i) by simp only [show (k.2 < i + 1) = (k.2 < i) from propext (by omega)]]
          · simp only [a0, if_false]
    rw [e2, e0]
    rw [show rf (decide (2 ≤ 2)) (w.1 (5, 0)) = .ref (w3.1 (5, 0)) by rw [e5]; rfl]
    refine r_astq X3 (key := (5, 0)) (kv := (0, i)) (t0 := 5) (ci := 0) (n := 5) (j := i) (r := (RX0, TX0, 13)) k35 k30 rfl (by rfl) rfl rfl rfl (by omega) (by omega) dX2_init_67 eC_e ?_
    refine r_iincn X3 dX2_init_68 rfl (by decide) rfl ?_
    refine r_goto X3 dX2_init_71 (tgt := 50) (by decide) ?_
    have hk : (4, 0) :: kI 12 ++ (5, 0) :: kE i ++ [(0, i)] ++ [(9, i)] = (4, 0) :: kI 12 ++ (5, 0) :: kE (i + 1) := by rw [kE_s]; simp
    rw [hk] at hG3
    have h5 := ih (i + 1) w3 (by omega) hG3 X3
    rw [show 14 + 2 * (i + 1) = 14 + 2 * i + 1 + 1 by omega, show 113 + 53 * (i + 1) = 113 + 53 * i + 13 + 40 by omega] at h5
    exact h5
/-- the keys that the class's constructor makes -/
def kC : List (Nat × Nat) := (4, 0) :: kI 12 ++ (5, 0) :: kE 5 ++ [(6, 0)] ++ [(7, 0)] ++ [(8, 0)]
theorem eC_ev {w : Wo} {k : Nat × Nat} (h : k.1 = 3 ∨ k = (2, 0) ∨ k = (4, 0) ∨ k = (5, 0) ∨ (k.1 = 0 ∧ k.2 < 5) ∨ k.1 = 1 ∨ (6 ≤ k.1)) (h3 : k.1 ≠ 3) : eC w 5 12 5 5 k = ev w Z0 Zg k := by
  unfold eC
  by_cases a2 : k = (2, 0)
  · subst a2; rfl
  · rw [if_neg a2]
    by_cases a4 : k = (4, 0)
    · subst a4
      rw [if_pos rfl]
      have hf : (fun j => if j < 12 ∨ 12 ≤ j then some (w.1 (1, j)) else none) = fun j => some (w.1 (1, j)) := funext fun j => by rw [if_pos (by omega)]
      rw [hf]
      rfl
    · rw [if_neg a4]
      by_cases a5 : k = (5, 0)
      · subst a5
        rw [if_pos rfl]
        have hf : (fun j => if j < 5 ∨ 5 ≤ j then some (w.1 (0, j)) else none) = fun j => some (w.1 (0, j)) := funext fun j => by rw [if_pos (by omega)]
        rw [hf]
        rfl
      · rw [if_neg a5]
        by_cases a0 : k.1 = 0
        · have h5 : k.2 < 5 := by
            rcases h with h | h | h | h | h | h | h
            · omega
            · exact absurd h a2
            · exact absurd h a4
            · exact absurd h a5
            · exact h.2
            · omega
            · omega
          rw [if_pos a0, show rf (decide (k.2 < 5)) (w.1 (9, k.2)) = .ref (w.1 (9, k.2)) by simp [rf, h5]]
          unfold ev
          rw [if_pos a0]
          rfl
        · rw [if_neg a0, if_neg]
          intro z
          rcases h with h | h | h | h | h | h | h
          · exact h3 h
          · exact a2 h
          · exact a4 h
          · exact a5 h
          · exact a0 h.1
          · omega
          · omega
def KQ (U : State) : Prop := va_AO RX1 U ∧ va_AO RX0 U
set_option maxHeartbeats 4000000 in
set_option maxRecDepth 100000 in
theorem c_X2_init (hnt : l.stackTraces = false) (hwi : WI w) (h0 : w.2.1 = [(2, 0)]) : CTn l yX2_init [Cond.code yX2_init cX2_init 2 none] 10 27 415 w [.ref (w.1 (2, 0))] KQ (eC w 0 0 0 0) kC (fun w2 => ev w2 Z0 Zg) := by
  refine CTn_of hnt hwi mw_X2_init (by simp [Value.category]) (Nat.le_of_ble_eq_true rfl) (fun p e s m args below meth c hh X hin hKQ => ?_)
  have k2 : (2, 0) ∈ w.2.1 := by rw [h0]; simp
  refine r_aload_n X dX2_init_0 (i := 0) rfl rfl ?_
  refine r_objInit X wo_X2 wo1 wo2 (by simp only [rmv]; omega) (Nat.le_of_ble_eq_true rfl) dX2_init_1 ?_
  refine r_aload_n X dX2_init_4 (i := 0) rfl rfl ?_
  refine r_bipush X dX2_init_5 (v := nI 12) (by decide) ?_
  refine r_newq X (key := (4, 0)) (C := RX1) (t0 := 6) (N := 12) (E2 := fun w2 => eC w2 0 0 0 0) (f0 := fun w2 j => if j < 0 ∨ 12 ≤ j then some (w2.1 (1, j)) else none) (fun w2 j hj => if_neg (by omega)) (by rw [h0]; simp) rfl (by decide) (by decide) (Nat.le_of_ble_eq_true rfl) wc_X2_9 hKQ.1 (by simp only [rmv]; omega) (by simp only [rmv]; omega) dX2_init_7 (fun w2 hG => ⟨by rw [← hG.2.1]; rfl, fun k hk => ?_⟩) (fun w2 hG X2 => ?_)
  · have hd : ∀ k2, k2 ≠ (4, 0) → w2.1 k2 = w.1 k2 := fun k2 h2 => hG.2.2.2.2.2 k2 (by simpa using h2)
    exact eC_ag hG.2.1 (fun _ => by omega) (fun _ => by omega) (fun _ => by omega) (fun _ => by omega) (fun _ => by omega) (fun j hj => hd _ (by simp)) (fun j hj => hd _ (by simp)) (fun j hj => hd _ (by simp)) k
  have e2 : w.1 (2, 0) = w2.1 (2, 0) := (hG.2.2.1 _ k2).symm
  have k22 : (2, 0) ∈ w2.2.1 := by rw [hG.1]; exact List.mem_append_left _ k2
  rw [e2]
  refine r_putF X2 (key := (2, 0)) (j := 0) (ci := 2) (fs := fC w2 0) (N := 10) (T := TX2) (ty := tyX2) (E2 := eC w2 1 0 0 0) hin kc2 k22 eC_2 (by decide) (Nat.le_of_ble_eq_true rfl) fl_X2_11 rfl rfl rfl dX2_init_10 (eC_q rfl) ?_
  refine r_iconst X2 dX2_init_13 (v := nI 0) (by decide) ?_
  refine r_istore_n X2 dX2_init_14 (i := 1) rfl (by decide) rfl ?_
  refine lp_X2i (l := l) hnt h0 (by simp only [rmv]; omega) (fun w3 hG3 X3 => ?_) 12 0 w2 (by omega) (by exact hG) X2
  clear k22 e2 X2 hG w2
  have k2 : (2, 0) ∈ w3.2.1 := by rw [hG3.1, h0]; simp
  have hl : ∀ k, k ∈ w3.2.1 → k = (2, 0) ∨ k = (4, 0) ∨ (k.1 = 1 ∧ k.2 < 12) := fun k hk => by
    rw [hG3.1, h0] at hk
    rcases List.mem_append.mp hk with z | z
    · exact .inl (by simpa using z)
    · rcases List.mem_cons.mp z with z | z
      · exact .inr (.inl z)
      · exact .inr (.inr (kI_m.mp z))
  refine r_aload_n X3 dX2_init_40 (i := 0) rfl rfl ?_
  refine r_iconst X3 dX2_init_41 (v := nI 5) (by decide) ?_
  refine r_newq X3 (key := (5, 0)) (C := RX0) (t0 := 5) (N := 5) (E2 := fun w2 => eC w2 1 12 0 0) (f0 := fun w2 j => if j < 0 ∨ 5 ≤ j then some (w2.1 (0, j)) else none) (fun w2 j hj => if_neg (by omega)) (fun z => by rcases hl _ z with h | h | h <;> simp at h) rfl (by decide) (by decide) (Nat.le_of_ble_eq_true rfl) wc_X2_16 hKQ.2 (by simp only [rmv]; omega) (by simp only [rmv]; omega) dX2_init_42 (fun w2 hG => ⟨by rw [← hG.2.1]; rfl, fun k hk => ?_⟩) (fun w4 hG X4 => ?_)
  · have hd : ∀ k2, k2 ≠ (5, 0) → w2.1 k2 = w3.1 k2 := fun k2 h2 => hG.2.2.2.2.2 k2 (by simpa using h2)
    exact eC_ag hG.2.1 (fun _ => hd _ (by simp)) (fun _ => by omega) (fun _ => by omega) (fun _ => by omega) (fun _ => by omega) (fun j hj => hd _ (by simp)) (fun j hj => hd _ (by simp)) (fun j hj => hd _ (by simp)) k
  have e2 : w3.1 (2, 0) = w4.1 (2, 0) := (hG.2.2.1 _ k2).symm
  have k24 : (2, 0) ∈ w4.2.1 := by rw [hG.1]; exact List.mem_append_left _ k2
  have hG4 := hG3.tr hG
  rw [e2]
  refine r_putF X4 (key := (2, 0)) (j := 1) (ci := 2) (fs := fC w4 1) (N := 10) (T := TX2) (ty := tyX2) (E2 := eC w4 2 12 0 0) hin kc2 k24 eC_2 (by decide) (Nat.le_of_ble_eq_true rfl) fl_X2_18 rfl rfl rfl dX2_init_45 (eC_q rfl) ?_
  refine r_iconst X4 dX2_init_48 (v := nI 0) (by decide) ?_
  refine r_istore_n X4 dX2_init_49 (i := 1) rfl (by decide) rfl ?_
  refine lp_X2e (l := l) hnt h0 (by simp only [rmv]; omega) (fun w5 hG5 X5 => ?_) 5 0 w4 (by omega) (by exact hG4) X4
  clear hl k2 k24 e2 X4 hG4 hG w4 hG3 X3 w3
  have k2 : (2, 0) ∈ w5.2.1 := by rw [hG5.1, h0]; simp
  have hl : ∀ k, k ∈ w5.2.1 → k = (2, 0) ∨ k = (4, 0) ∨ (k.1 = 1 ∧ k.2 < 12) ∨ k = (5, 0) ∨ ((k.1 = 0 ∨ k.1 = 9) ∧ k.2 < 5) := fun k hk => by
    rw [hG5.1, h0] at hk
    rcases List.mem_append.mp hk with z | z
    · exact .inl (by simpa using z)
    · rcases List.mem_append.mp z with z | z
      · rcases List.mem_cons.mp z with z | z
        · exact .inr (.inl z)
        · exact .inr (.inr (.inl (kI_m.mp z)))
      · rcases List.mem_cons.mp z with z | z
        · exact .inr (.inr (.inr (.inl z)))
        · exact .inr (.inr (.inr (.inr (kE_m.mp z))))
  refine r_aload_n X5 dX2_init_74 (i := 0) rfl rfl ?_
  refine r_bipush X5 dX2_init_75 (v := nI 12) (by decide) ?_
  refine r_newa X5 (key := (6, 0)) (atype := .int) (ty := .int) (t0 := 0) (N := 12) (a0 := (12, .inl (fun _ => 0))) (E2 := fun w2 => eC w2 2 12 5 5) (fun z => by rcases hl _ z with h | h | h | h | h <;> simp at h) rfl rfl (fun _ => rfl) (by decide) (by decide) (Nat.le_of_ble_eq_true rfl) wa_I (by simp only [rmv]; omega) (by simp only [rmv]; omega) dX2_init_77 (fun w2 hG => ⟨by rw [← hG.2.1]; rfl, fun k hk => ?_⟩) (fun w6 hL6 X6 => ?_)
  · have hd : ∀ k2, k2 ≠ (6, 0) → w2.1 k2 = w5.1 k2 := fun k2 h2 => hG.2.2.2.2.2 k2 (by simpa using h2)
    exact eC_ag hG.2.1 (fun _ => hd _ (by simp)) (fun _ => hd _ (by simp)) (fun _ => by omega) (fun _ => by omega) (fun _ => by omega) (fun j hj => hd _ (by simp)) (fun j hj => hd _ (by simp)) (fun j hj => hd _ (by simp)) k
  have e2_6 : w5.1 (2, 0) = w6.1 (2, 0) := (hL6.2.2.1 _ k2).symm
  have k2_6 : (2, 0) ∈ w6.2.1 := by rw [hL6.1]; exact List.mem_append_left _ k2
  have hG6 := hG5.tr hL6
  rw [e2_6]
  refine r_putF X6 (key := (2, 0)) (j := 6) (ci := 2) (fs := fC w6 2) (N := 10) (T := TX2) (ty := tyX2) (E2 := eC w6 3 12 5 5) hin kc2 k2_6 eC_2 (by decide) (Nat.le_of_ble_eq_true rfl) fl_X2_23 rfl rfl rfl dX2_init_79 (eC_q rfl) ?_
  refine r_aload_n X6 dX2_init_82 (i := 0) rfl rfl ?_
  refine r_bipush X6 dX2_init_83 (v := nI 12) (by decide) ?_
  refine r_newa X6 (key := (7, 0)) (atype := .int) (ty := .int) (t0 := 0) (N := 12) (a0 := (12, .inl (fun _ => 0))) (E2 := fun w2 => eC w2 3 12 5 5) (fun z => by rw [hL6.1] at z; rcases List.mem_append.mp z with z | z <;> first | (rcases hl _ z with h | h | h | h | h <;> simp at h; done) | (simp at z; done)) rfl rfl (fun _ => rfl) (by decide) (by decide) (Nat.le_of_ble_eq_true rfl) wa_I (by simp only [rmv]; omega) (by simp only [rmv]; omega) dX2_init_85 (fun w2 hG => ⟨by rw [← hG.2.1]; rfl, fun k hk => ?_⟩) (fun w7 hL7 X7 => ?_)
  · have hd : ∀ k2, k2 ≠ (7, 0) → w2.1 k2 = w6.1 k2 := fun k2 h2 => hG.2.2.2.2.2 k2 (by simpa using h2)
    exact eC_ag hG.2.1 (fun _ => hd _ (by simp)) (fun _ => hd _ (by simp)) (fun _ => hd _ (by simp)) (fun _ => by omega) (fun _ => by omega) (fun j hj => hd _ (by simp)) (fun j hj => hd _ (by simp)) (fun j hj => hd _ (by simp)) k
  have e2_7 : w6.1 (2, 0) = w7.1 (2, 0) := (hL7.2.2.1 _ k2_6).symm
  have k2_7 : (2, 0) ∈ w7.2.1 := by rw [hL7.1]; exact List.mem_append_left _ k2_6
  have hG7 := hG6.tr hL7
  rw [e2_7]
  refine r_putF X7 (key := (2, 0)) (j := 7) (ci := 2) (fs := fC w7 3) (N := 10) (T := TX2) (ty := tyX2) (E2 := eC w7 4 12 5 5) hin kc2 k2_7 eC_2 (by decide) (Nat.le_of_ble_eq_true rfl) fl_X2_27 rfl rfl rfl dX2_init_87 (eC_q rfl) ?_
  refine r_aload_n X7 dX2_init_90 (i := 0) rfl rfl ?_
  refine r_bipush X7 dX2_init_91 (v := nI 13) (by decide) ?_
  refine r_newa X7 (key := (8, 0)) (atype := .int) (ty := .int) (t0 := 0) (N := 13) (a0 := (13, .inl (fun _ => 0))) (E2 := fun w2 => eC w2 4 12 5 5) (fun z => by rw [hL7.1, hL6.1] at z; rcases List.mem_append.mp z with z | z <;> first | (simp at z; done) | (rcases List.mem_append.mp z with z | z <;> first | (rcases hl _ z with h | h | h | h | h <;> simp at h; done) | (simp at z; done))) rfl rfl (fun _ => rfl) (by decide) (by decide) (Nat.le_of_ble_eq_true rfl) wa_I (by simp only [rmv]; omega) (by simp only [rmv]; omega) dX2_init_93 (fun w2 hG => ⟨by rw [← hG.2.1]; rfl, fun k hk => ?_⟩) (fun w8 hL8 X8 => ?_)
  · have hd : ∀ k2, k2 ≠ (8, 0) → w2.1 k2 = w7.1 k2 := fun k2 h2 => hG.2.2.2.2.2 k2 (by simpa using h2)
    exact eC_ag hG.2.1 (fun _ => hd _ (by simp)) (fun _ => hd _ (by simp)) (fun _ => hd _ (by simp)) (fun _ => hd _ (by simp)) (fun _ => by omega) (fun j hj => hd _ (by simp)) (fun j hj => hd _ (by simp)) (fun j hj => hd _ (by simp)) k
  have e2_8 : w7.1 (2, 0) = w8.1 (2, 0) := (hL8.2.2.1 _ k2_7).symm
  have k2_8 : (2, 0) ∈ w8.2.1 := by rw [hL8.1]; exact List.mem_append_left _ k2_7
  have hG8 := hG7.tr hL8
  rw [e2_8]
  refine r_putF X8 (key := (2, 0)) (j := 8) (ci := 2) (fs := fC w8 4) (N := 10) (T := TX2) (ty := tyX2) (E2 := eC w8 5 12 5 5) hin kc2 k2_8 eC_2 (by decide) (Nat.le_of_ble_eq_true rfl) fl_X2_30 rfl rfl rfl dX2_init_95 (eC_q rfl) ?_
  refine r_retN X8 hG8 dX2_init_98 (by omega) (by omega) (fun k hk => eC_ev ?_ ?_)
  · rw [hL8.1, hL7.1, hL6.1] at hk
    simp only [List.mem_append, List.mem_singleton] at hk
    rcases hk with ((hk | hk) | hk) | hk
    · rcases hl _ hk with h | h | h | h | h
      · exact .inr (.inl h)
      · exact .inr (.inr (.inl h))
      · exact .inr (.inr (.inr (.inr (.inr (.inl h.1)))))
      · exact .inr (.inr (.inr (.inl h)))
      · rcases h.1 with h1 | h1
        · exact .inr (.inr (.inr (.inr (.inl ⟨h1, h.2⟩))))
        · exact .inr (.inr (.inr (.inr (.inr (.inr (by omega))))))
    · exact .inr (.inr (.inr (.inr (.inr (.inr (by rw [hk]; decide))))))
    · exact .inr (.inr (.inr (.inr (.inr (.inr (by rw [hk]; decide))))))
    · exact .inr (.inr (.inr (.inr (.inr (.inr (by rw [hk]; decide))))))
  · rw [hL8.1, hL7.1, hL6.1] at hk
    simp only [List.mem_append, List.mem_singleton] at hk
    rcases hk with ((hk | hk) | hk) | hk
    · rcases hl _ hk with h | h | h | h | h
      · rw [h]; decide
      · rw [h]; decide
      · omega
      · rw [h]; decide
      · omega
    · rw [hk]; decide
    · rw [hk]; decide
    · rw [hk]; decide
end Init
