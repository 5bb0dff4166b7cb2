/-! THE CLASS'S SEARCHES ARE THE SEARCH -/
section CSea
theorem sub_n {n u : Nat} (h : u ≤ n) : nI n - nI u = nI (n - u) := by
  have h1 := nI_add (n - u) u
  rw [Nat.sub_add_cancel h] at h1
  grind
theorem neg_n : ∀ k : Fin 1000, ¬ nI 0 < -(nI k.val) := by decide +kernel
theorem nd_b {M : Mem} {g : As} {e : Nat} (hC : CR M) (he : e < 5) : nd M g e ≤ 192 := by
  unfold nd
  split
  · refine su_b (b := 16) 12 (fun i hi => ?_)
    have h1 := (hC.1 i hi).2
    have h2 := (hC.2 e he).1.2
    have h3 : co M e i ≤ 16 := by unfold co; omega
    show (if g i = e + 1 then co M e i else 0) ≤ 16
    split <;> omega
  · have h1 := su_b (f := uo M g e) (b := 12) 10 (fun k _ => uo_b M g e k)
    omega
theorem mss_n {M0 M : Mem} {g : As} {e : Nat} (hC : CR M0) (h : CI M0 M g) (he : e < 5) : mss M e = nI (ms' M0 g e) := by
  have h1 := (h.2.2 e he).2
  have h2 := (hC.2 e he).2.1
  have h3 := nd_b (g := g) hC he
  have h4 := h2.2
  unfold mss ms' un
  rw [h1, h.1 0 e 4 rfl]
  rw [h2.1]
  generalize ix (M0 0 e 4) = u at *
  rw [ixn (by omega)]
  by_cases hu : u ≤ nd M0 g e
  · rw [sub_n hu]
    split
    · rfl
    · rename_i hz
      have : ¬ 0 < nd M0 g e - u := fun z => hz ((nI_ltI (by omega) (by omega)).mpr z)
      rw [show nd M0 g e - u = 0 by omega]
  · have h5 : nI (nd M0 g e) - nI u = -(nI (u - nd M0 g e)) := by
      have h6 := sub_n (n := u) (u := nd M0 g e) (by omega)
      grind
    rw [h5, if_neg (neg_n ⟨u - nd M0 g e, by omega⟩), show nd M0 g e - u = 0 by omega]
def bst (z : Int32) : St → Int32
  | none => z
  | some q => nI q.1
def bsg : St → As
  | none => fun _ => 0
  | some q => q.2
/-- the class stands at g with st the best yet -/
def CS (z : Int32) (cov : Nat → Int32) (M0 M : Mem) (g : As) (st : St) : Prop := CI M0 M g ∧ M 2 0 9 = bst z st ∧ (∀ i, i < 12 → M 7 0 i = dv (bsg st i)) ∧ (∀ q, st = some q → q.1 < 1000000) ∧ ∀ a, a < 13 → M 8 0 a = cov a
theorem CS_give {z : Int32} {cov : Nat → Int32} {M0 M : Mem} {g : As} {st : St} {e i : Nat} (hD : DI M0) (hC : CR M0) (hi : i < 12) (he : e < 5) (h : CS z cov M0 M g st) (hg : g i = 0) : CS z cov M0 (giveM M i e) (ga g i (e + 1)) st := by
  have hx : ∀ c n k, (c = 2 ∨ c = 7 ∨ c = 8) → giveM M i e c n k = M c n k := fun c n k hc => by
    show chg (ms M 6 0 i (nI e)) e i (nI 1) c n k = _
    rw [chg_x (by omega) (by omega), ms_o (by omega)]
  refine ⟨giveM_CI hD hC hi he h.1 hg, ?_, fun j hj => ?_, h.2.2.2.1, fun a ha => ?_⟩
  · rw [hx _ _ _ (by omega)]; exact h.2.1
  · rw [hx _ _ _ (by omega)]; exact h.2.2.1 j hj
  · rw [hx _ _ _ (by omega)]; exact h.2.2.2.2 a ha
theorem CS_take {z : Int32} {cov : Nat → Int32} {M0 M : Mem} {g : As} {st : St} {e i : Nat} (hD : DI M0) (hC : CR M0) (hi : i < 12) (he : e < 5) (h : CS z cov M0 M (ga g i (e + 1)) st) (hg : g i = 0) : CS z cov M0 (tkM M i e) g st := by
  have hx : ∀ c n k, (c = 2 ∨ c = 7 ∨ c = 8) → tkM M i e c n k = M c n k := fun c n k hc => by
    show chg (ms M 6 0 i (-1)) e i (-1) c n k = _
    rw [chg_x (by omega) (by omega), ms_o (by omega)]
  refine ⟨tkM_CI hD hC hi he h.1 hg, ?_, fun j hj => ?_, h.2.2.2.1, fun a ha => ?_⟩
  · rw [hx _ _ _ (by omega)]; exact h.2.1
  · rw [hx _ _ _ (by omega)]; exact h.2.2.1 j hj
  · rw [hx _ _ _ (by omega)]; exact h.2.2.2.2 a ha
theorem keep_x {M : Mem} {v : Int32} {c n k : Nat} (h : ¬ (c = 7 ∧ n = 0 ∧ k < 12)) (h2 : ¬ (c = 2 ∧ n = 0 ∧ k = 9)) : keepM M v c n k = M c n k := by
  show (if c = 7 ∧ n = 0 ∧ k < 12 then ms M 2 0 9 v 6 0 k else ms M 2 0 9 v c n k) = _
  rw [if_neg h, ms_o h2]
theorem CS_keep {z : Int32} {cov : Nat → Int32} {M0 M : Mem} {g : As} {st : St} {v : Nat} (hv : v < 1000000) (h : CS z cov M0 M g st) : CS z cov M0 (keepM M (nI v)) g (some (v, g)) := by
  refine ⟨⟨fun c i k hs => ?_, fun j hj => ?_, fun e he => ?_⟩, ?_, fun j hj => ?_, fun q hq => ?_, fun a ha => ?_⟩
  · rw [keep_x (fun z => by simp [scr, z.1] at hs) (fun z => by simp [scr, z.1, z.2.2] at hs)]
    exact h.1.1 c i k hs
  · rw [keep_x (by omega) (by omega)]; exact h.1.2.1 j hj
  · exact CN_o (h.1.2.2 e he) (fun k => keep_x (by omega) (by omega)) (keep_x (by omega) (by omega)) rfl rfl
  · show (if (2 : Nat) = 7 ∧ (0 : Nat) = 0 ∧ 9 < 12 then ms M 2 0 9 (nI v) 6 0 9 else ms M 2 0 9 (nI v) 2 0 9) = _
    rw [if_neg (by omega), ms_s]; rfl
  · show (if (7 : Nat) = 7 ∧ (0 : Nat) = 0 ∧ j < 12 then ms M 2 0 9 (nI v) 6 0 j else ms M 2 0 9 (nI v) 7 0 j) = _
    rw [if_pos ⟨rfl, rfl, hj⟩, ms_o (by omega)]; exact h.1.2.1 j hj
  · cases hq; exact hv
  · rw [keep_x (by omega) (by omega)]; exact h.2.2.2.2 a ha
theorem CS_fold {z : Int32} {cov : Nat → Int32} {M0 : Mem} {g : As} {R : Nat → Mem → Mem} {F : Nat → Bool} {f : Nat → St → St} (h : ∀ e A st, e < 5 → CS z cov M0 A g st → CS z cov M0 (R e A) g (if F e = true then f e st else st)) {A : Mem} {st : St} (hA : CS z cov M0 A g st) : ∀ n, n ≤ 5 → CS z cov M0 (itn R n A) g (fo F f n st)
  | 0, _ => hA
  | n + 1, hn => h n _ _ (by omega) (CS_fold h hA n (by omega))
def imp (st : St) (v : Nat) : Bool := match st with
  | none => true
  | some q => decide (v < q.1)
def sTp (M0 : Mem) : Sp := (fun e i => fit M0 e i, fun i => decide (M0 1 i 0 = 0), cst M0, fun _ _ => true, fun a g st => decide (a = 12) && !imp st (cst M0 g))
theorem nI_mu (a b : Nat) : nI a * nI b = nI (a * b) := (Int32.ofNat_mul a b).symm
theorem smM_n {M0 M : Mem} {g : As} (hC : CR M0) (h : CI M0 M g) : ∀ k, k ≤ 5 → smM M k = nI (su (fun e => ix (M0 0 e 7) * ms' M0 g e) k)
  | 0, _ => rfl
  | k + 1, hk => by
    unfold smM su
    rw [smM_n hC h k (by omega), mss_n hC h (by omega), h.1 0 k 7 rfl, ← nI_add, ← nI_mu, ← (hC.2 k (by omega)).2.2.1]
theorem cst_b {M0 : Mem} {g : As} (hC : CR M0) : cst M0 g ≤ 5 * (99 * 192) := su_b 5 (fun e he => Nat.mul_le_mul (by have := (hC.2 e he).2.2.2; omega) (Nat.le_trans (Nat.sub_le _ _) (nd_b hC he)))
theorem mx_le {st : St} {v : Nat} (hb : ∀ q, st = some q → q.1 < 1000000) (hv : v < 1000000) : (bst 1000000 st ≤ nI v) = (imp st v = false) := by
  cases st with
  | none =>
    have h1 : ¬ nI 1000000 ≤ nI v := fun z => by have := (nI_leI (by omega) (by omega)).mp z; omega
    have h2 : (1000000 : Int32) = nI 1000000 := rfl
    simp only [bst, imp, h2, h1]
    simp
  | some q =>
    have h1 := hb q rfl
    simp only [bst, imp, nI_leI (show q.1 < 2 ^ 31 by omega) (show v < 2 ^ 31 by omega)]
    simp
theorem tpu_s {cov : Nat → Int32} {M0 : Mem} (hD : DI M0) (hC : CR M0) : ∀ d a M g st, a + d = 12 → (∀ j, a ≤ j → j < 12 → g j = 0) → CS 1000000 cov M0 M g st → CS 1000000 cov M0 (tpu d a M) g (pr (sTp M0) 5 d a g st)
  | 0, a, M, g, st, ha, _, h => by
    have hb := cst_b (g := g) hC
    have hs : smM M 5 = nI (cst M0 g) := smM_n hC h.1 5 (by omega)
    unfold tpu pr
    show CS _ _ _ _ _ (if (decide (a = 12) && !imp st (cst M0 g)) = true then st else some (cst M0 g, g))
    have h12 : a = 12 := by omega
    simp only [h12, hs, h.2.1, mx_le h.2.2.2.1 (show cst M0 g < 1000000 by omega)]
    cases hi : imp st (cst M0 g)
    · simp; exact h
    · simp; exact CS_keep (by omega) h
  | d + 1, a, M, g, st, ha, hz, h => by
    have ih := tpu_s (cov := cov) hD hC d (a + 1)
    have hf := CS_fold (R := tcG (tpu d) a) (F := fun e => fit M0 e a && true) (f := fun e s => pr (sTp M0) 5 d (a + 1) (ga g a (e + 1)) s) (g := g) (M0 := M0) (z := 1000000) (cov := cov) (fun e A s he hA => by
      unfold tcG
      rw [fit_sm hA.1.1]
      cases hq : fit M0 e a
      · simp; exact hA
      · simp
        exact CS_take hD hC (by omega) he (ih _ _ _ (by omega) (fun j h1 h2 => by rw [ga_o (by omega)]; exact hz j (by omega) h2) (CS_give hD hC (by omega) he hA (hz a (by omega) (by omega)))) (hz a (by omega) (by omega))) h 5 (by omega)
    have hcut : (sTp M0).cut a g st = false := by
      show (decide (a = 12) && _) = false
      simp [show ¬ a = 12 by omega]
    unfold tpu pr
    rw [hcut, h.1.1 1 a 0 rfl]
    show CS _ _ _ _ _ (if false = true then st else if decide (M0 1 a 0 = 0) = true then _ else _)
    by_cases h0 : M0 1 a 0 = 0
    · simp only [h0, Bool.false_eq_true, if_false, if_true, decide_true]
      have hfo : fo (fun e => fit M0 e a && true) (fun e s => pr (sTp M0) 5 d (a + 1) (ga g a (e + 1)) s) 5 st = st := fo_id 5 (fun e _ hq => by simp [fit, h0] at hq)
      show CS _ _ _ _ _ (pr (sTp M0) 5 d (a + 1) g (fo (fun e => fit M0 e a && true) (fun e s => pr (sTp M0) 5 d (a + 1) (ga g a (e + 1)) s) 5 st))
      rw [hfo]
      exact ih _ _ _ (by omega) (fun j h1 h2 => hz j (by omega) h2) h
    · simp only [h0, Bool.false_eq_true, if_false, decide_false]
      exact hf
theorem mx_lt {st : St} {v : Nat} (hb : ∀ q, st = some q → q.1 < 1000000) (hv : v < 1000000) : (nI v < bst 1000000 st) = (imp st v = true) := by
  cases st with
  | none =>
    have h1 : nI v < nI 1000000 := (nI_ltI (by omega) (by omega)).mpr (by omega)
    have h2 : (1000000 : Int32) = nI 1000000 := rfl
    simp only [bst, imp, h2, h1]
  | some q =>
    have h1 := hb q rfl
    simp only [bst, imp, nI_ltI (show v < 2 ^ 31 by omega) (show q.1 < 2 ^ 31 by omega)]
    simp
def sPp (M0 : Mem) : Sp := (fun e i => fit M0 e i, fun i => decide (M0 1 i 0 = 0), cst M0, fun _ _ => true, fun _ g st => !imp st (cst M0 g))
theorem cst_ch {M : Mem} {g : As} {i e : Nat} (he : e < 5) (hg : g i = 0) : cst M (ga g i (e + 1)) + ix (M 0 e 7) * ms' M g e = cst M g + ix (M 0 e 7) * ms' M (ga g i (e + 1)) e :=
  su_ch (f := fun x => ix (M 0 x 7) * ms' M g x) (f2 := fun x => ix (M 0 x 7) * ms' M (ga g i (e + 1)) x) (k := e) (fun j hj => by unfold ms'; rw [nd_o (by omega) (by omega)]) 5 he
theorem i32_ch {a b c d : Int32} (h : a + b = c + d) : c - b + d = a := by grind
theorem sp_s {cov : Nat → Int32} {M0 : Mem} (hD : DI M0) (hC : CR M0) : ∀ d a M g st, a + d = 12 → (∀ j, a ≤ j → j < 12 → g j = 0) → CS 1000000 cov M0 M g st → CS 1000000 cov M0 (sp d a (nI (cst M0 g)) M) g (pr (sPp M0) 5 d a g st)
  | 0, a, M, g, st, ha, _, h => by
    have hb := cst_b (g := g) hC
    unfold sp pr
    show CS _ _ _ _ _ (if (!imp st (cst M0 g)) = true then st else some (cst M0 g, g))
    simp only [h.2.1, mx_lt h.2.2.2.1 (show cst M0 g < 1000000 by omega)]
    cases hi : imp st (cst M0 g)
    · simp; exact h
    · simp; exact CS_keep (by omega) h
  | d + 1, a, M, g, st, ha, hz, h => by
    have ih := sp_s (cov := cov) hD hC d (a + 1)
    have hb := cst_b (g := g) hC
    have hf := CS_fold (R := spG (sp d) a (nI (cst M0 g))) (F := fun e => fit M0 e a && true) (f := fun e s => pr (sPp M0) 5 d (a + 1) (ga g a (e + 1)) s) (g := g) (M0 := M0) (z := 1000000) (cov := cov) (fun e A s he hA => by
      unfold spG
      rw [fit_sm hA.1.1]
      cases hq : fit M0 e a
      · simp; exact hA
      · simp
        have hG := CS_give hD hC (by omega) he hA (hz a (by omega) (by omega))
        have hm1 : mpr A e = nI (ix (M0 0 e 7) * ms' M0 g e) := by unfold mpr; rw [mss_n hC hA.1 he, hA.1.1 0 e 7 rfl, ← nI_mu, ← (hC.2 e he).2.2.1]
        have hm2 : mpr (giveM A a e) e = nI (ix (M0 0 e 7) * ms' M0 (ga g a (e + 1)) e) := by unfold mpr; rw [mss_n hC hG.1 he, hG.1.1 0 e 7 rfl, ← nI_mu, ← (hC.2 e he).2.2.1]
        have hc : nI (cst M0 g) - mpr A e + mpr (giveM A a e) e = nI (cst M0 (ga g a (e + 1))) := by
          rw [hm1, hm2]
          exact i32_ch (by rw [nI_add, nI_add]; exact congrArg nI (cst_ch he (hz a (by omega) (by omega))))
        rw [hc]
        exact CS_take hD hC (by omega) he (ih _ _ _ (by omega) (fun j h1 h2 => by rw [ga_o (by omega)]; exact hz j (by omega) h2) hG) (hz a (by omega) (by omega))) h 5 (by omega)
    unfold sp pr
    show CS _ _ _ _ _ (if (!imp st (cst M0 g)) = true then st else if decide (M0 1 a 0 = 0) = true then _ else _)
    simp only [h.2.1, mx_lt h.2.2.2.1 (show cst M0 g < 1000000 by omega), h.1.1 1 a 0 rfl]
    cases hi : imp st (cst M0 g)
    · simp; exact h
    · by_cases h0 : M0 1 a 0 = 0
      · simp only [h0, Bool.not_true, Bool.false_eq_true, if_false, if_true, decide_true]
        have hfo : fo (fun e => fit M0 e a && true) (fun e s => pr (sPp M0) 5 d (a + 1) (ga g a (e + 1)) s) 5 st = st := fo_id 5 (fun e _ hq => by simp [fit, h0] at hq)
        show CS _ _ _ _ _ (pr (sPp M0) 5 d (a + 1) g (fo (fun e => fit M0 e a && true) (fun e s => pr (sPp M0) 5 d (a + 1) (ga g a (e + 1)) s) 5 st))
        rw [hfo]
        exact ih _ _ _ (by omega) (fun j h1 h2 => hz j (by omega) h2) h
      · simp only [h0, Bool.not_true, Bool.false_eq_true, if_false, if_true, decide_false]
        exact hf
def cim (st : St) (v : Nat) : Bool := match st with
  | none => true
  | some q => decide (q.1 < v)
theorem m1_le : ∀ k : Fin 13, ¬ nI k.val ≤ (-1 : Int32) := by decide
theorem ct_b (g : As) : ct g ≤ 12 := su_b (b := 1) 12 (fun i _ => by
  show (if g i = 0 then 0 else 1) ≤ 1
  split <;> omega)
theorem cg_le {st : St} {g : As} (hb : ∀ q, st = some q → q.1 < 1000000) : (nI (ct g) ≤ bst (-1) st) = (cim st (ct g) = false) := by
  have h0 := ct_b g
  cases st with
  | none =>
    have h1 : ¬ nI (ct g) ≤ (-1 : Int32) := m1_le ⟨ct g, by omega⟩
    simp only [bst, cim, h1]
    simp
  | some q =>
    have h1 := hb q rfl
    simp only [bst, cim, nI_leI (show ct g < 2 ^ 31 by omega) (show q.1 < 2 ^ 31 by omega)]
    simp
theorem dv_z {a : Nat} (h : a < 6) : (dv a = -1) = (a = 0) := by
  have h1 : ∀ k : Fin 6, (dv k.val = -1) ↔ k.val = 0 := by decide
  exact propext (h1 ⟨a, h⟩)
theorem cgv_n {M0 M : Mem} {g : As} (h : CI M0 M g) (hg : ∀ i, i < 12 → g i < 6) : ∀ k, k ≤ 12 → cgv M k = nI (su (fun i => if g i = 0 then 0 else 1) k)
  | 0, _ => rfl
  | k + 1, hk => by
    have ih := cgv_n h hg k (by omega)
    unfold cgv su
    rw [ih, h.2.1 k (by omega)]
    simp only [dv_z (hg k (by omega))]
    by_cases h0 : g k = 0
    · rw [if_pos h0, if_pos h0]; rfl
    · rw [if_neg h0, if_neg h0, nI_add]
def fe (M : Mem) (g : As) : Nat → Nat → Bool
  | 0, _ => true
  | n + 1, e => decide (ms' M g e = 0) && fe M g n (e + 1)
theorem le0_n {k : Nat} (h : k < 2 ^ 31) : (nI k ≤ 0) = (k = 0) := by
  have h1 := nI_leI h (show 0 < 2 ^ 31 by omega)
  exact propext ⟨fun z => by have := h1.mp z; omega, fun z => h1.mpr (by omega)⟩
theorem alF_n {M0 M : Mem} {g : As} (hC : CR M0) (h : CI M0 M g) : ∀ n e, e + n ≤ 5 → alF M n e = fe M0 g n e
  | 0, _, _ => rfl
  | n + 1, e, hk => by
    have h3 := nd_b (g := g) (e := e) hC (by omega)
    have h4 : ms' M0 g e ≤ 192 := Nat.le_trans (Nat.sub_le _ _) h3
    unfold alF fe
    rw [alF_n hC h n (e + 1) (by omega), mss_n hC h (by omega)]
    simp only [le0_n (show ms' M0 g e < 2 ^ 31 by omega)]
end CSea
