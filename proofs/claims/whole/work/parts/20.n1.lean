/-! THE MODEL: its leaves, its lookups and writes -/
section N1
theorem btw_cnt {c : Int32} {N : Nat} (hc : Rg c N) (hN : N ≤ 100) (x : Int32) : btw x (nI 0) (c - nI 1) = true ↔ Rg x (ix c) := by
  obtain ⟨h1, h2⟩ := hc
  rw [h1, ixn (show ix c < 2 ^ 31 by omega)]
  generalize ix c = n at h2
  match n, h2 with
  | 0, _ =>
    constructor
    · intro h
      simp only [btw, Bool.and_eq_true, Bool.not_eq_true', decide_eq_false_iff_not] at h
      obtain ⟨j, hj, rfl⟩ := nI_of (x := x) h.1
      exact absurd h.2 (by
        rw [Decidable.not_not, show nI 0 - nI 1 = -1 from by decide, Int32.lt_iff_toInt_lt, nI_toInt hj]
        show (-1 : Int) < _
        omega)
    · intro h
      exact absurd h.2 (Nat.not_lt_zero _)
  | n + 1, hn =>
    rw [pk_sub (by omega), show n + 1 - 1 = n by omega]
    exact ⟨fun h => btw_Rg h (by omega), fun h => h.btw (by omega)⟩
def scm (c k : Nat) : Bool := (decide (c = 3) && (decide (k = 0) || decide (k = 4))) || decide (c = 29) || decide (c = 30) || decide (c = 31)
def Mm (M M1 : Mem) : Prop := ∀ c i k, scm c k = false → M1 c i k = M c i k
theorem Mm.rf {M : Mem} : Mm M M := fun _ _ _ _ => rfl
theorem Mm.tr {A B C : Mem} (h : Mm A B) (h2 : Mm B C) : Mm A C := fun c i k hs => (h2 c i k hs).trans (h c i k hs)
theorem Mm_ms {M M1 : Mem} {c i k : Nat} {v : Int32} (h : Mm M M1) (hc : scm c k = true) : Mm M (ms M1 c i k v) := fun c' i' k' hs => by
  rw [ms_o]
  · exact h c' i' k' hs
  · rintro ⟨rfl, -, rfl⟩
    rw [hc] at hs
    cases hs
theorem Mm_itn {M M1 : Mem} {g : Nat → Mem → Mem} (hg : ∀ k A, Mm M A → Mm M (g k A)) (h : Mm M M1) : ∀ n, Mm M (itn g n M1)
  | 0 => h
  | n + 1 => hg n _ (Mm_itn hg h n)
/-- what stands of the model between calls -/
def DM (M : Mem) : Prop := Rg (M 3 0 1) 13 ∧ Rg (M 3 0 2) 7 ∧ Rg (M 3 0 3) 6 ∧ ∀ i, i < 12 → Rg (M 10 0 i) 4
theorem DM.mm {M M1 : Mem} (h : DM M) (hs : Mm M M1) : DM M1 := by
  unfold DM
  rw [hs 3 0 1 rfl, hs 3 0 2 rfl, hs 3 0 3 rfl]
  refine ⟨h.1, h.2.1, h.2.2.1, fun i hi => ?_⟩
  rw [hs 10 0 i rfl]
  exact h.2.2.2 i hi
theorem DM_ms {M : Mem} {c i k : Nat} {v : Int32} (hc : scm c k = true) (h : DM M) : DM (ms M c i k v) := h.mm (Mm_ms Mm.rf hc)
/-- no such install; no such entitlement -/
def nti (M : Mem) (x : Int32) : Bool := !(btw x (nI 0) (M 3 0 1 - nI 1) && decide (M 17 0 (ix x) = 0))
def nte (M : Mem) (x : Int32) : Bool := !btw x (nI 0) (M 3 0 3 - nI 1)
def tM (M : Mem) (b : Bool) : Mem := ms M 3 0 0 (if b = true then nI 1 else nI 0)
theorem Mm_t {M M1 : Mem} {b : Bool} (h : Mm M M1) : Mm M (tM M1 b) := Mm_ms h rfl
theorem DM_t {M : Mem} {b : Bool} (h : DM M) : DM (tM M b) := h.mm (Mm_t Mm.rf)
theorem nti_Rg {M : Mem} {x : Int32} (hD : DM M) (h : nti M x = false) : Rg x 12 := by
  simp only [nti, Bool.not_eq_false', Bool.and_eq_true] at h
  have h1 := (btw_cnt hD.1 (by decide) x).mp h.1
  have h2 := hD.1.2
  exact ⟨h1.1, by have := h1.2; omega⟩
theorem nte_Rg {M : Mem} {x : Int32} (hD : DM M) (h : nte M x = false) : Rg x 5 := by
  simp only [nte, Bool.not_eq_false'] at h
  have h1 := (btw_cnt hD.2.2.1 (by decide) x).mp h
  have h2 := hD.2.2.1.2
  exact ⟨h1.1, by have := h1.2; omega⟩
def hv (a : Int32) : Nat → Int32
  | 0 => a
  | k + 1 => hv a k / nI 2
def isS (a : Int32) (b : Nat) : Bool := decide (hv a b - hv a b / nI 2 * nI 2 = nI 1)
def mim (M : Mem) (e i : Nat) : Int32 :=
  if isS (M 21 0 e) (ix (M 10 0 i)) = false then nI 112
  else if ¬ (M 25 0 e = -1) ∧ ¬ (M 25 0 e = M 16 0 i) then nI 111
  else if M 23 0 e < M 12 0 i ∨ (¬ (M 23 0 e ≤ M 12 0 i) ∧ M 18 0 e = 0) then nI 101
  else if (¬ (M 22 0 e ≤ M 11 0 i) ∧ M 18 0 e = 0) ∨ (¬ (M 11 0 i ≤ M 22 0 e) ∧ M 19 0 e = 0) then nI 118
  else nI 45
theorem mim_c (M : Mem) (e i : Nat) : narrow .char (.int (mim M e i)) = .int (mim M e i) := by
  unfold mim
  split
  · rfl
  · split
    · rfl
    · split
      · rfl
      · split <;> rfl
def fim (M : Mem) (e i : Nat) : Bool := decide (mim M e i = nI 45)
def cfm (M : Mem) (i : Nat) : Nat → Int32
  | 0 => nI 0
  | k + 1 => cfm M i k + (if fim M k i = true then nI 1 else nI 0)
def mfI (p v e d u c q : Int32) : Bool := btw p (nI 0) (nI 3) && btw v (nI 1) (nI 9) && btw e (nI 1) (nI 3) && btw d (nI 0) (nI 9) && btw u (nI 0) (nI 9) && btw c (nI 1) (nI 16) && btw q (nI 0) (nI 2)
def mfE (pr v ed m u po : Int32) : Bool := btw pr (nI 1) (nI 15) && btw v (nI 1) (nI 9) && btw ed (nI 1) (nI 3) && met m && btw u (nI 0) (nI 99) && btw po (-1) (nI 2)
def fillM (M : Mem) (i : Nat) (p v e d u c q : Int32) : Mem := ms (ms (ms (ms (ms (ms (ms M 10 0 i p) 11 0 i v) 12 0 i e) 13 0 i d) 14 0 i u) 15 0 i c) 16 0 i q
def fillN (M : Mem) (e : Nat) (pr v ed m u po : Int32) : Mem := ms (ms (ms (ms (ms (ms (ms (ms M 21 0 e pr) 22 0 e v) 23 0 e ed) 28 0 e m) 24 0 e u) 25 0 e po) 26 0 e (nI 1)) 27 0 e (nI 10)
def er (M : Mem) (G : Lng) (n : Nat) : Oc := okO (some (.int (nI 0))) (ms M 3 0 0 (nI n)) G
def nInstall (M : Mem) (G : Lng) (p v e d u c q : Int32) : Oc :=
  if mfI p v e d u c q = true then
    if M 3 0 2 = nI 6 ∨ M 3 0 1 = nI 12 then er M G 2
    else okO (some (.int (M 3 0 1))) (ms (ms (fillM (ms M 3 0 0 (nI 0)) (ix (M 3 0 1)) p v e d u c q) 3 0 2 (M 3 0 2 + nI 1)) 3 0 1 (M 3 0 1 + nI 1)) G
  else er M G 1
def nRetire (M : Mem) (G : Lng) (x : Int32) : Oc := if nti M x = true then er M G 1 else okO (some (.int (M 3 0 2 - nI 1))) (ms (ms (ms M 3 0 0 (nI 0)) 17 0 (ix x) (nI 1)) 3 0 2 (M 3 0 2 - nI 1)) G
def nMoveTo (M : Mem) (G : Lng) (x d u : Int32) : Oc := if nti M x = true then er M G 1 else if (btw d (nI 0) (nI 9) && btw u (nI 0) (nI 9)) = true then okO (some (.int (M 13 0 (ix x)))) (ms (ms (ms M 3 0 0 (nI 0)) 13 0 (ix x) d) 14 0 (ix x) u) G else okO (some (.int (nI 0))) (ms (ms M 3 0 0 (nI 0)) 3 0 0 (nI 2)) G
def nSetVersion (M : Mem) (G : Lng) (x d u : Int32) : Oc := if nti M x = true then er M G 1 else if (btw d (nI 1) (nI 9) && btw u (nI 1) (nI 3)) = true then okO (some (.int (M 11 0 (ix x)))) (ms (ms (ms M 3 0 0 (nI 0)) 11 0 (ix x) d) 12 0 (ix x) u) G else okO (some (.int (nI 0))) (ms (ms M 3 0 0 (nI 0)) 3 0 0 (nI 2)) G
def nSetPool (M : Mem) (G : Lng) (x d : Int32) : Oc := if nti M x = true then er M G 1 else if btw d (nI 0) (nI 2) = true then okO (some (.int (M 16 0 (ix x)))) (ms (ms M 3 0 0 (nI 0)) 16 0 (ix x) d) G else okO (some (.int (nI 0))) (ms (ms M 3 0 0 (nI 0)) 3 0 0 (nI 2)) G
def nEntitle (M : Mem) (G : Lng) (pr v ed m u po : Int32) : Oc :=
  if mfE pr v ed m u po = true then
    if M 3 0 3 = nI 5 then er M G 2
    else okO (some (.int (M 3 0 3))) (ms (fillN (ms M 3 0 0 (nI 0)) (ix (M 3 0 3)) pr v ed m u po) 3 0 3 (M 3 0 3 + nI 1)) G
  else er M G 1
def crm (M : Mem) (e : Nat) : Int32 := (if M 18 0 e = 0 then nI 0 else nI 1) + (if M 19 0 e = 0 then nI 0 else nI 1) + (if M 20 0 e = 0 then nI 0 else nI 1)
def nSetRights (M : Mem) (G : Lng) (x : Int32) (a b c : Bool) : Oc := if nte M x = true then er M G 1 else okO (some (.int (crm M (ix x)))) (ms (ms (ms (ms M 3 0 0 (nI 0)) 18 0 (ix x) (bi a)) 19 0 (ix x) (bi b)) 20 0 (ix x) (bi c)) G
def nSetMinimum (M : Mem) (G : Lng) (x c : Int32) : Oc := if nte M x = true then er M G 1 else if btw c (nI 1) (nI 16) = true then (if M 28 0 (ix x) = nI 99 then okO (some (.int (M 26 0 (ix x)))) (ms (ms M 3 0 0 (nI 0)) 26 0 (ix x) c) G else okO (some (.int (nI 0))) (ms (ms M 3 0 0 (nI 0)) 3 0 0 (nI 3)) G) else okO (some (.int (nI 0))) (ms (ms M 3 0 0 (nI 0)) 3 0 0 (nI 2)) G
def nSetPrice (M : Mem) (G : Lng) (x c : Int32) : Oc := if nte M x = true then er M G 1 else if btw c (nI 1) (nI 99) = true then okO (some (.int (M 27 0 (ix x)))) (ms (ms M 3 0 0 (nI 0)) 27 0 (ix x) c) G else okO (some (.int (nI 0))) (ms (ms M 3 0 0 (nI 0)) 3 0 0 (nI 2)) G
def nAddUnits (M : Mem) (G : Lng) (x c : Int32) : Oc := if nte M x = true then er M G 1 else if btw c (nI 1) (nI 99) = true then (if M 24 0 (ix x) + c ≤ nI 999 then okO (some (.int (M 24 0 (ix x) + c))) (ms (ms M 3 0 0 (nI 0)) 24 0 (ix x) (M 24 0 (ix x) + c)) G else okO (some (.int (nI 0))) (ms (ms M 3 0 0 (nI 0)) 3 0 0 (nI 3)) G) else okO (some (.int (nI 0))) (ms (ms M 3 0 0 (nI 0)) 3 0 0 (nI 2)) G
def nUnits (M : Mem) (G : Lng) (x : Int32) : Oc := if nte M x = true then er M G 1 else okO (some (.int (M 24 0 (ix x)))) (ms M 3 0 0 (nI 0)) G
def nWhy (M : Mem) (G : Lng) (x y : Int32) : Oc := if nti M x = true then okO (some (.int (nI 112))) (ms M 3 0 0 (nI 1)) G else if nte M y = true then okO (some (.int (nI 112))) (ms (ms M 3 0 0 (nI 0)) 3 0 0 (nI 1)) G else okO (some (.int (mim (ms (ms M 3 0 0 (nI 0)) 3 0 0 (nI 0)) (ix y) (ix x)))) (ms (ms M 3 0 0 (nI 0)) 3 0 0 (nI 0)) G
theorem nte_t {M : Mem} {b : Bool} {x : Int32} : nte (tM M b) x = nte M x := by unfold nte tM; rw [ms_o (by decide)]
set_option maxHeartbeats 4000000 in
set_option maxRecDepth 100000 in
theorem c_X3_thrown {l : Launch} {w : Wo} {M : Mem} {G : Lng}  (hnt : l.stackTraces = false) (hw : WK w)  : CT l yX3_thrown [Cond.code yX3_thrown cX3_thrown 1 (some .int)] 1 0 0 w [.ref (w.1 (3, 0))] M G (okO (some (.int (M 3 0 0))) (M) G) := by
  sorry
set_option maxHeartbeats 4000000 in
set_option maxRecDepth 100000 in
theorem c_X3_fail {l : Launch} {w : Wo} {M : Mem} {G : Lng} {x : Int32} (hnt : l.stackTraces = false) (hw : WK w)  : CT l yX3_fail [Cond.code yX3_fail cX3_fail 2 (some .int)] 1 0 0 w [.ref (w.1 (3, 0)), .int x] M G (okO (some (.int (nI 0))) (ms M 3 0 0 x) G) := by
  sorry
set_option maxHeartbeats 4000000 in
set_option maxRecDepth 100000 in
theorem c_X3_isIn {l : Launch} {w : Wo} {M : Mem} {G : Lng} {a b c9 : Int32} (hnt : l.stackTraces = false) (hw : WK w)  : CT l yX3_isIn [Cond.code yX3_isIn cX3_isIn 3 (some .boolean)] 1 0 0 w [.int a, .int b, .int c9] M G (okO (some (.int (bi (btw a b c9)))) (M) G) := by
  sorry
set_option maxHeartbeats 4000000 in
set_option maxRecDepth 100000 in
theorem c_X3_isThere {l : Launch} {w : Wo} {M : Mem} {G : Lng} {x : Int32} (hnt : l.stackTraces = false) (hw : WK w) (hD : DM M) : CT l yX3_isThere [Cond.code yX3_isThere cX3_isThere 2 (some .boolean)] 2 0 0 w [.ref (w.1 (3, 0)), .int x] M G (okO (some (.int (bi (!nti M x)))) (M) G) := by
  sorry
set_option maxHeartbeats 4000000 in
set_option maxRecDepth 100000 in
theorem c_X3_noInstall {l : Launch} {w : Wo} {M : Mem} {G : Lng} {x : Int32} (hnt : l.stackTraces = false) (hw : WK w) (hD : DM M) : CT l yX3_noInstall [Cond.code yX3_noInstall cX3_noInstall 2 (some .boolean)] 3 0 0 w [.ref (w.1 (3, 0)), .int x] M G (okO (some (.int (bi (nti M x)))) (tM M (nti M x)) G) := by
  sorry
set_option maxHeartbeats 4000000 in
set_option maxRecDepth 100000 in
theorem c_X3_noEntitlement {l : Launch} {w : Wo} {M : Mem} {G : Lng} {x : Int32} (hnt : l.stackTraces = false) (hw : WK w)  : CT l yX3_noEntitlement [Cond.code yX3_noEntitlement cX3_noEntitlement 2 (some .boolean)] 3 0 0 w [.ref (w.1 (3, 0)), .int x] M G (okO (some (.int (bi (nte M x)))) (tM M (nte M x)) G) := by
  sorry
set_option maxHeartbeats 4000000 in
set_option maxRecDepth 100000 in
theorem lp_isSet {p : Program} {l : Launch} {e : Env} {s : State} {m : MethodId} {args : Array Value} {below : List Frame} {meth : Method} {c : Code} {w : Wo} {M : Mem} {G : Lng} {a : Int32} {b : Nat} (hnt : l.stackTraces = false) (hw : WK w) (X : Cx p l (rmv 1 0 0) s m args meth c cX3_isSet 4 yX3_isSet.cls (some .boolean) [] w) (hb : b < 2 ^ 20) : ∀ (n k : Nat), k + n = b → VE p l e (rmv 1 0 0) s m args below meth c (0) (0) (QV w (okO (some (.int (bi (isS a b)))) (M) G) below args s 0 0) 4 w 4 [some (.int a), some (.int (nI b)), some (.int (hv a k)), some (.int (nI k))] [] (ev w (M) (G)) := by
  sorry
set_option maxHeartbeats 4000000 in
set_option maxRecDepth 100000 in
theorem c_X3_isSet {l : Launch} {w : Wo} {M : Mem} {G : Lng} {a x : Int32} {b : Nat} (hnt : l.stackTraces = false) (hw : WK w) (hx : x = nI b) (hb : b < 2 ^ 20) : CT l yX3_isSet [Cond.code yX3_isSet cX3_isSet 4 (some .boolean)] 1 0 0 w [.int a, .int x] M G (okO (some (.int (bi (isS a b)))) (M) G) := by
  sorry
set_option maxHeartbeats 4000000 in
set_option maxRecDepth 100000 in
theorem c_X3_reasonOf {l : Launch} {w : Wo} {M : Mem} {G : Lng} {x y : Int32} {i e9 : Nat} (hnt : l.stackTraces = false) (hw : WK w) (hD : DM M) (hx : x = nI i) (hi : i < 12) (hy : y = nI e9) (he : e9 < 5) : CT l yX3_reasonOf [Cond.code yX3_reasonOf cX3_reasonOf 3 (some .char)] 2 0 0 w [.ref (w.1 (3, 0)), .int x, .int y] M G (okO (some (.int (mim M e9 i))) (M) G) := by
  sorry
set_option maxHeartbeats 4000000 in
set_option maxRecDepth 100000 in
theorem c_X3_fits {l : Launch} {w : Wo} {M : Mem} {G : Lng} {x y : Int32} {i e9 : Nat} (hnt : l.stackTraces = false) (hw : WK w) (hD : DM M) (hx : x = nI i) (hi : i < 12) (hy : y = nI e9) (he : e9 < 5) : CT l yX3_fits [Cond.code yX3_fits cX3_fits 3 (some .boolean)] 3 0 0 w [.ref (w.1 (3, 0)), .int x, .int y] M G (okO (some (.int (bi (fim M e9 i)))) (M) G) := by
  sorry
set_option maxHeartbeats 4000000 in
set_option maxRecDepth 100000 in
theorem lp_fitsm {p : Program} {l : Launch} {e : Env} {s : State} {m : MethodId} {args : Array Value} {below : List Frame} {meth : Method} {c : Code} {w : Wo} {M : Mem} {G : Lng} {x : Int32} {i : Nat} (hnt : l.stackTraces = false) (hw : WK w) (X : Cx p l (rmv 4 0 0) s m args meth c cX3_fits_ 4 yX3_fits_.cls (some .int) [] w) (hD : DM M) (hx : x = nI i) (hi : i < 12) : ∀ (n k : Nat), k + n = ix (M 3 0 3) → VE p l e (rmv 4 0 0) s m args below meth c (0) (0) (QV w (okO (some (.int (cfm M i (ix (M 3 0 3))))) (M) G) below args s 0 0) 4 w 4 [some (.ref (w.1 (3, 0))), some (.int x), some (.int (cfm M i k)), some (.int (nI k))] [] (ev w (M) (G)) := by
  sorry
set_option maxHeartbeats 4000000 in
set_option maxRecDepth 100000 in
theorem c_X3_fits_ {l : Launch} {w : Wo} {M : Mem} {G : Lng} {x : Int32} {i : Nat} (hnt : l.stackTraces = false) (hw : WK w) (hD : DM M) (hx : x = nI i) (hi : i < 12) : CT l yX3_fits_ [Cond.code yX3_fits_ cX3_fits_ 4 (some .int)] 4 0 0 w [.ref (w.1 (3, 0)), .int x] M G (okO (some (.int (cfm M i (ix (M 3 0 3))))) (M) G) := by
  sorry
set_option maxHeartbeats 4000000 in
set_option maxRecDepth 100000 in
theorem c_X3_installs {l : Launch} {w : Wo} {M : Mem} {G : Lng}  (hnt : l.stackTraces = false) (hw : WK w)  : CT l yX3_installs [Cond.code yX3_installs cX3_installs 1 (some .int)] 1 0 0 w [.ref (w.1 (3, 0))] M G (okO (some (.int (M 3 0 2))) (M) G) := by
  sorry
set_option maxHeartbeats 4000000 in
set_option maxRecDepth 100000 in
theorem c_X3_install {l : Launch} {w : Wo} {M : Mem} {G : Lng} {p9 v9 e9 d9 c9 u9 q9 : Int32} (hnt : l.stackTraces = false) (hw : WK w) (hD : DM M) : CT l yX3_install [Cond.code yX3_install cX3_install 8 (some .int)] 7 0 0 w [.ref (w.1 (3, 0)), .int p9, .int v9, .int e9, .int d9, .int c9, .int u9, .int q9] M G (nInstall M G p9 v9 e9 d9 c9 u9 q9) := by
  sorry
set_option maxHeartbeats 4000000 in
set_option maxRecDepth 100000 in
theorem c_X3_retire {l : Launch} {w : Wo} {M : Mem} {G : Lng} {x : Int32} (hnt : l.stackTraces = false) (hw : WK w) (hD : DM M) : CT l yX3_retire [Cond.code yX3_retire cX3_retire 2 (some .int)] 7 0 0 w [.ref (w.1 (3, 0)), .int x] M G (nRetire M G x) := by
  sorry
set_option maxHeartbeats 4000000 in
set_option maxRecDepth 100000 in
theorem c_X3_moveTo {l : Launch} {w : Wo} {M : Mem} {G : Lng} {x d9 u9 : Int32} (hnt : l.stackTraces = false) (hw : WK w) (hD : DM M) : CT l yX3_moveTo [Cond.code yX3_moveTo cX3_moveTo 5 (some .int)] 7 0 0 w [.ref (w.1 (3, 0)), .int x, .int d9, .int u9] M G (nMoveTo M G x d9 u9) := by
  sorry
set_option maxHeartbeats 4000000 in
set_option maxRecDepth 100000 in
theorem c_X3_setVersion {l : Launch} {w : Wo} {M : Mem} {G : Lng} {x d9 u9 : Int32} (hnt : l.stackTraces = false) (hw : WK w) (hD : DM M) : CT l yX3_setVersion [Cond.code yX3_setVersion cX3_setVersion 5 (some .int)] 7 0 0 w [.ref (w.1 (3, 0)), .int x, .int d9, .int u9] M G (nSetVersion M G x d9 u9) := by
  sorry
set_option maxHeartbeats 4000000 in
set_option maxRecDepth 100000 in
theorem c_X3_setPool {l : Launch} {w : Wo} {M : Mem} {G : Lng} {x d9 : Int32} (hnt : l.stackTraces = false) (hw : WK w) (hD : DM M) : CT l yX3_setPool [Cond.code yX3_setPool cX3_setPool 4 (some .int)] 7 0 0 w [.ref (w.1 (3, 0)), .int x, .int d9] M G (nSetPool M G x d9) := by
  sorry
set_option maxHeartbeats 4000000 in
set_option maxRecDepth 100000 in
theorem c_X3_entitle {l : Launch} {w : Wo} {M : Mem} {G : Lng} {p9 v9 d9 m9 u9 q9 : Int32} (hnt : l.stackTraces = false) (hw : WK w) (hD : DM M) (hv3 : vp_nar .char m9 = m9) : CT l yX3_entitle [Cond.code yX3_entitle cX3_entitle 7 (some .int)] 7 0 0 w [.ref (w.1 (3, 0)), .int p9, .int v9, .int d9, .int m9, .int u9, .int q9] M G (nEntitle M G p9 v9 d9 m9 u9 q9) := by
  sorry
set_option maxHeartbeats 4000000 in
set_option maxRecDepth 100000 in
theorem c_X3_setRights {l : Launch} {w : Wo} {M : Mem} {G : Lng} {x : Int32} {a9 b9 c9 : Bool} (hnt : l.stackTraces = false) (hw : WK w) (hD : DM M) : CT l yX3_setRights [Cond.code yX3_setRights cX3_setRights 6 (some .int)] 7 0 0 w [.ref (w.1 (3, 0)), .int x, .int (bi a9), .int (bi b9), .int (bi c9)] M G (nSetRights M G x a9 b9 c9) := by
  sorry
set_option maxHeartbeats 4000000 in
set_option maxRecDepth 100000 in
theorem c_X3_setMinimum {l : Launch} {w : Wo} {M : Mem} {G : Lng} {x d9 : Int32} (hnt : l.stackTraces = false) (hw : WK w) (hD : DM M) : CT l yX3_setMinimum [Cond.code yX3_setMinimum cX3_setMinimum 4 (some .int)] 7 0 0 w [.ref (w.1 (3, 0)), .int x, .int d9] M G (nSetMinimum M G x d9) := by
  sorry
set_option maxHeartbeats 4000000 in
set_option maxRecDepth 100000 in
theorem c_X3_setPrice {l : Launch} {w : Wo} {M : Mem} {G : Lng} {x d9 : Int32} (hnt : l.stackTraces = false) (hw : WK w) (hD : DM M) : CT l yX3_setPrice [Cond.code yX3_setPrice cX3_setPrice 4 (some .int)] 7 0 0 w [.ref (w.1 (3, 0)), .int x, .int d9] M G (nSetPrice M G x d9) := by
  sorry
set_option maxHeartbeats 4000000 in
set_option maxRecDepth 100000 in
theorem c_X3_addUnits {l : Launch} {w : Wo} {M : Mem} {G : Lng} {x d9 : Int32} (hnt : l.stackTraces = false) (hw : WK w) (hD : DM M) : CT l yX3_addUnits [Cond.code yX3_addUnits cX3_addUnits 3 (some .int)] 7 0 0 w [.ref (w.1 (3, 0)), .int x, .int d9] M G (nAddUnits M G x d9) := by
  sorry
set_option maxHeartbeats 4000000 in
set_option maxRecDepth 100000 in
theorem c_X3_units {l : Launch} {w : Wo} {M : Mem} {G : Lng} {x : Int32} (hnt : l.stackTraces = false) (hw : WK w) (hD : DM M) : CT l yX3_units [Cond.code yX3_units cX3_units 2 (some .int)] 7 0 0 w [.ref (w.1 (3, 0)), .int x] M G (nUnits M G x) := by
  sorry
end N1
