/-! THE LAW'S BODY: its stretches -/
section Law
abbrev lvL (w : Wo) (b : Nat) (i : Int32) (a6 a7 : Option Value) : List (Option Value) := [some (.ref b), some (.ref (w.1 (2, 0))), some (.ref (w.1 (3, 0))), some (.ref (w.1 (40, 0))), some (.ref (w.1 (41, 0))), some (.int i), a6, a7]
def LX (p : Program) (l : Launch) (s : State) (m : MethodId) (args : Array Value) (meth : Method) (c : Code) (hh : List (Nat × Nat × Nat × Nat)) (w : Wo) (b L : Nat) (xs : Nat → Int32) : Prop :=
  Cx p l room_1 s m args meth c cL_law 8 RL (some .boolean) hh w ∧ WK w ∧ l.stackTraces = false ∧ va_X b L xs s s.heap ∧ b < s.heap.size ∧ ¬ AA w s.heap.size b ∧ L ≤ 4096
variable {p : Program} {l : Launch} {e : Env} {s : State} {m : MethodId} {args : Array Value} {below : List Frame} {meth : Method} {c : Code} {cells slots : Nat} {Q : State → Prop} {hh : List (Nat × Nat × Nat × Nat)} {w : Wo} {b L : Nat} {xs : Nat → Int32} {st : List Value} {E : Nat × Nat → va_E} {a6 a7 : Option Value}
theorem VE_widen {k n : Nat} {R : Room} {nL pc : Nat} {lv : List (Option Value)} (h1 : cells ≤ k) (h2 : slots ≤ n) (h : VE p l e R s m args below meth c k n Q nL w pc lv st E) : VE p l e R s m args below meth c cells slots Q nL w pc lv st E := fun H locs ls hP hS hL => W.widen h1 h2 (h H locs ls hP hS hL)
/-- script[i + k] -/
theorem ld (hX : LX p l s m args meth c hh w b L xs) {pc q k j : Nat} (hj : 8 * j + k < L) (d0 : decode cL_law pc = .ok (.aload_n 0, 1)) (d1 : decode cL_law (pc + 1) = .ok (.iload 5, 2)) (dk : ∀ st, VE p l e room_1 s m args below meth c cells slots Q 8 w q (lvL w b (nI (8 * j)) a6 a7) (.int (nI k) :: st) E → VE p l e room_1 s m args below meth c cells slots Q 8 w (pc + 1 + 2) (lvL w b (nI (8 * j)) a6 a7) st E) (d3 : decode cL_law q = .ok (.iadd, 1)) (d4 : decode cL_law (q + 1) = .ok (.iaload, 1))
    (kk : VE p l e room_1 s m args below meth c cells slots Q 8 w (q + 1 + 1) (lvL w b (nI (8 * j)) a6 a7) (.int (xs (8 * j + k)) :: st) E) : VE p l e room_1 s m args below meth c cells slots Q 8 w pc (lvL w b (nI (8 * j)) a6 a7) st E := by
  obtain ⟨X, hw, hnt, hx, hbl, hbA, hL4⟩ := hX
  refine r_aload_n X d0 (i := 0) rfl rfl ?_
  refine r_iload X d1 rfl ?_
  refine dk _ ?_
  refine r_iadd X d3 ?_
  rw [nI_add]
  intro H locs ls hP hS hL
  refine va_sld X.x X.b hx hbl hbA hS (vp_in_nI hj (by omega)) d4 ?_
  rw [nI_clamp (by omega)]
  exact kk H locs ls hP hS hL
/-- x != 0 -/
theorem ldB (hX : LX p l s m args meth c hh w b L xs) {pc : Nat} {x : Int32} {lv : List (Option Value)} (d0 : decode cL_law pc = .ok (.ifCond .eq 7, 3)) (d1 : decode cL_law (pc + 3) = .ok (.iconst 1, 1)) (d2 : decode cL_law (pc + 3 + 1) = .ok (.goto 4, 3)) (d3 : decode cL_law (pc + 7) = .ok (.iconst 0, 1))
    (kk : VE p l e room_1 s m args below meth c cells slots Q 8 w (pc + 8) lv (.int (bi (!decide (x = 0))) :: st) E) : VE p l e room_1 s m args below meth c cells slots Q 8 w pc lv (.int x :: st) E := by
  obtain ⟨X, -⟩ := hX
  refine r_if_eq X d0 (tgt := pc + 7) (by omega) (fun h => ?_) (fun h => ?_)
  · refine r_iconst X d3 (v := nI 0) (by decide) ?_
    rw [show bi (!decide (x = 0)) = nI 0 by rw [decide_eq_true h]; rfl] at kk
    exact kk
  · refine r_iconst X d1 (v := nI 1) (by decide) ?_
    refine r_goto X d2 (tgt := pc + 8) (by omega) ?_
    rw [show bi (!decide (x = 0)) = nI 1 by rw [decide_eq_false h]; rfl] at kk
    exact kk
def ch (x : Int32) : Int32 := (x.toUInt32 % 65536).toInt32
theorem lg_same (x : Int64) : lg_cmp x x = 0 := by
  unfold lg_cmp
  simp [Int64.lt_irrefl]
/-- behind the model's answer: the two numbers are the same, and the answers where it is 0 -/
theorem lw_tail (hX : LX p l s m args meth c hh w b L xs) {p0 : Nat} {off : Int} {kv v i : Int32} {M : Mem} {G : Lng}
    (h1 : M 3 0 0 = kv) (h2 : kv = 0 → G (40, 0) = v.toInt64) (hcs : cells ≤ room_1.cells) (hss : slots ≤ room_1.slots)
    (d0 : decode cL_law p0 = .ok (.istore 7, 2)) (d2 : decode cL_law (p0 + 2) = .ok (.aload_n 2, 1)) (d3 : decode cL_law (p0 + 3) = .ok (.invokevirtual 114, 3)) (d6 : decode cL_law (p0 + 6) = .ok (.iload 6, 2)) (d8 : decode cL_law (p0 + 8) = .ok (.if_icmp .eq 5, 3)) (d13 : decode cL_law (p0 + 13) = .ok (.iload 6, 2)) (d15 : decode cL_law (p0 + 15) = .ok (.ifCond .ne 15, 3)) (d18 : decode cL_law (p0 + 18) = .ok (.aload_n 3, 1)) (d19 : decode cL_law (p0 + 19) = .ok (.iconst 0, 1)) (d20 : decode cL_law (p0 + 20) = .ok (.laload, 1)) (d21 : decode cL_law (p0 + 21) = .ok (.iload 7, 2)) (d23 : decode cL_law (p0 + 23) = .ok (.i2l, 1)) (d24 : decode cL_law (p0 + 24) = .ok (.lcmp, 1)) (d25 : decode cL_law (p0 + 25) = .ok (.ifCond .eq 5, 3)) (d30 : decode cL_law (p0 + 30) = .ok (.goto off, 3)) (hoff : ((p0 + 30 : Nat) : Int) + off = ((1935 : Nat) : Int))
    (kk : ∀ a7, VE p l e room_1 s m args below meth c cells slots Q 8 w 1935 (lvL w b i (some (.int kv)) a7) [] (ev w M G)) : VE p l e room_1 s m args below meth c cells slots Q 8 w p0 (lvL w b i (some (.int kv)) a7) [.int v] (ev w M G) := by
  obtain ⟨X, hw, hnt, -⟩ := hX
  refine r_istore X d0 (by decide) (lv2 := lvL w b i (some (.int kv)) (some (.int v))) rfl ?_
  refine r_aload_n X d2 (i := 2) rfl rfl ?_
  refine r_callV X (c_X3_thrown hnt hw) mw_X3_thrown kc3 mi_X3_thrown (hw.2 _ _ (by decide)) ev3 ml_L_114 rfl rfl (Nat.le_of_ble_eq_true rfl) (Nat.le_of_ble_eq_true rfl) (Nat.le_of_ble_eq_true rfl) hcs hss d3 (ko1 ?_)
  rw [h1]
  refine r_iload X d6 rfl ?_
  refine r_icmp_eq X d8 (tgt := p0 + 13) (by omega) (fun _ => ?_) (fun h => absurd rfl h)
  refine r_iload X d13 rfl ?_
  refine r_if_ne X d15 (tgt := p0 + 30) (by omega) (fun _ => ?_) (fun h => ?_)
  · exact r_goto X d30 (tgt := 1935) hoff (kk _)
  · refine r_aload_n X d18 (i := 3) rfl rfl ?_
    refine r_iconst X d19 (v := nI 0) (by decide) ?_
    refine r_lald X (key := (40, 0)) (n := 1) (j := 0) (f := fun _ => G (40, 0)) (hw.2 _ _ (by decide)) rfl rfl (by decide) (by decide) d20 ?_
    refine r_iload X d21 rfl ?_
    refine r_i2l X d23 ?_
    refine r_lcmp X d24 ?_
    refine r_if_eq X d25 (tgt := p0 + 30) (by omega) (fun _ => ?_) (fun h3 => ?_)
    · exact r_goto X d30 (tgt := 1935) hoff (kk _)
    · have h5 : kv = 0 := by
        first | exact h | (simpa using h)
      exact absurd (by rw [h2 h5]; exact lg_same _) h3
end Law
