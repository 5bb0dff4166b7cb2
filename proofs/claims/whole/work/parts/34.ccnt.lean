/-! THE CLASS'S SEARCHES FOR COVERAGE ARE THE SEARCH -/
section CCnt
/-- every choice kept at the leaves alone: the most given; the cheapest -/
def sT (M0 : Mem) (T : Nat) : Sp := (fun e i => fit M0 e i, fun _ => true, ct, fun _ _ => true, fun a g st => decide (a = T) && !(fe M0 g 5 0 && cim st (ct g)))
def sP (M0 : Mem) (T : Nat) : Sp := (fun e i => fit M0 e i, fun i => decide (M0 1 i 0 = 0), cst M0, fun _ _ => true, fun a g st => decide (a = T) && !imp st (cst M0 g))
/-- cut by what may still be given -/
def sB (M0 : Mem) (b : Nat → Nat) : Sp := (fun e i => fit M0 e i, fun _ => true, ct, fun e g => decide (ms' M0 g e = 0), fun a g st => !cim st (ct g + b a))
theorem ct_ch {g : As} {a v : Nat} (ha : a < 12) (hg : g a = 0) : ct (ga g a (v + 1)) = ct g + 1 := by
  have h1 := su_ch (f := fun i => if g i = 0 then 0 else 1) (f2 := fun i => if ga g a (v + 1) i = 0 then 0 else 1) (k := a) (fun j hj => by simp only [ga_o hj]) 12 ha
  simp only [ga_s, hg, if_true] at h1
  rw [if_neg (by omega)] at h1
  unfold ct
  omega
theorem cb_lt {st : St} {c b : Nat} (hb : ∀ q, st = some q → q.1 < 1000000) (h : c + b < 1000) : (bst (-1) st < nI c + nI b) = (cim st (c + b) = true) := by
  rw [nI_add]
  cases st with
  | none =>
    have h2 : ∀ k : Fin 1000, (-1 : Int32) < nI k.val := by decide +kernel
    have h1 := h2 ⟨c + b, h⟩
    simp only [bst, cim, h1]
  | some q =>
    have h1 := hb q rfl
    simp only [bst, cim, nI_ltI (show q.1 < 2 ^ 31 by omega) (show c + b < 2 ^ 31 by omega)]
    simp
theorem tc_s {cov : Nat → Int32} {M0 : Mem} (hD : DI M0) (hC : CR M0) : ∀ d a M g st, a + d = 12 → (∀ j, a ≤ j → j < 12 → g j = 0) → (∀ j, j < 12 → g j < 6) → CS (-1) cov M0 M g st → CS (-1) cov M0 (tc d a M) g (pr (sT M0 12) 5 d a g st)
  | 0, a, M, g, st, ha, _, h6, h => by
    have h1 : alF M 5 0 = fe M0 g 5 0 := alF_n hC h.1 5 0 (by omega)
    have h2 : cgv M 12 = nI (ct g) := cgv_n h.1 h6 12 (by omega)
    have hb := ct_b g
    unfold tc pr
    show CS _ _ _ _ _ (if (decide (a = 12) && !(fe M0 g 5 0 && cim st (ct g))) = true then st else some (ct g, g))
    have h12 : a = 12 := by omega
    simp only [h12, h1, h2, h.2.1, cg_le h.2.2.2.1]
    cases fe M0 g 5 0
    · simp; exact h
    · cases cim st (ct g)
      · simp; exact h
      · simp; exact CS_keep (by omega) h
  | d + 1, a, M, g, st, ha, hz, h6, h => by
    have ih := tc_s (cov := cov) hD hC d (a + 1)
    have hf := CS_fold (R := tcG (tc d) a) (F := fun e => fit M0 e a && true) (f := fun e s => pr (sT M0 12) 5 d (a + 1) (ga g a (e + 1)) s) (g := g) (M0 := M0) (z := -1) (cov := cov) (fun e A s he hA => by
      unfold tcG
      rw [fit_sm hA.1.1]
      cases hq : fit M0 e a
      · simp; exact hA
      · simp
        exact CS_take hD hC (by omega) he (ih _ _ _ (by omega) (fun j h1 h2 => by rw [ga_o (by omega)]; exact hz j (by omega) h2) (fun j hj => by
          by_cases e1 : j = a
          · subst e1; rw [ga_s]; omega
          · rw [ga_o e1]; exact h6 j hj) (CS_give hD hC (by omega) he hA (hz a (by omega) (by omega)))) (hz a (by omega) (by omega))) h 5 (by omega)
    have hcut : (sT M0 12).cut a g st = false := by
      show (decide (a = 12) && _) = false
      simp [show ¬ a = 12 by omega]
    unfold tc pr
    rw [hcut]
    show CS _ _ _ _ _ (if false = true then st else if true = true then _ else _)
    simp only [Bool.false_eq_true, if_false, if_true]
    exact ih _ _ _ (by omega) (fun j h1 h2 => hz j (by omega) h2) h6 hf
theorem sc_s {b : Nat → Nat} {M0 : Mem} (hD : DI M0) (hC : CR M0) (hb : ∀ a, b a ≤ 12) : ∀ d a M g st, a + d = 12 → (∀ j, a ≤ j → j < 12 → g j = 0) → CS (-1) (fun a => nI (b a)) M0 M g st → CS (-1) (fun a => nI (b a)) M0 (sc d a (nI (ct g)) M) g (pr (sB M0 b) 5 d a g st)
  | 0, a, M, g, st, ha, _, h => by
    have hc := ct_b g
    have hb1 := hb a
    unfold sc pr
    show CS _ _ _ _ _ (if (!cim st (ct g + b a)) = true then st else some (ct g, g))
    simp only [h.2.1, h.2.2.2.2 a (by omega), cb_lt h.2.2.2.1 (show ct g + b a < 1000 by omega)]
    cases cim st (ct g + b a)
    · simp; exact h
    · simp; exact CS_keep (by omega) h
  | d + 1, a, M, g, st, ha, hz, h => by
    have hc := ct_b g
    have hb1 := hb a
    have ih := sc_s (b := b) hD hC hb d (a + 1)
    have hf := CS_fold (R := scG (sc d) a (nI (ct g))) (F := fun e => fit M0 e a && decide (ms' M0 (ga g a (e + 1)) e = 0)) (f := fun e s => pr (sB M0 b) 5 d (a + 1) (ga g a (e + 1)) s) (g := g) (M0 := M0) (z := -1) (cov := fun a => nI (b a)) (fun e A s he hA => by
      unfold scG
      rw [fit_sm hA.1.1]
      cases hq : fit M0 e a
      · simp; exact hA
      · have hG := CS_give hD hC (by omega) he hA (hz a (by omega) (by omega))
        have h3 := nd_b (g := ga g a (e + 1)) hC he
        have h4 : ms' M0 (ga g a (e + 1)) e ≤ 192 := Nat.le_trans (Nat.sub_le _ _) h3
        have h5 : (mss (giveM A a e) e = 0) = (ms' M0 (ga g a (e + 1)) e = 0) := by
          rw [mss_n hC hG.1 he, ← le0_n (show ms' M0 (ga g a (e + 1)) e < 2 ^ 31 by omega)]
          have h6 : ∀ k : Fin 193, (nI k.val = 0) = (nI k.val ≤ 0) := fun k => propext ((by decide +kernel : ∀ k : Fin 193, (nI k.val = 0) ↔ (nI k.val ≤ 0)) k)
          exact h6 ⟨_, by omega⟩
        simp only [h5]
        by_cases hm : ms' M0 (ga g a (e + 1)) e = 0
        · simp [hm]
          rw [nI_add, ← ct_ch (v := e) (by omega) (hz a (by omega) (by omega))]
          exact CS_take hD hC (by omega) he (ih _ _ _ (by omega) (fun j h1 h2 => by rw [ga_o (by omega)]; exact hz j (by omega) h2) hG) (hz a (by omega) (by omega))
        · simp [hm]
          exact CS_take hD hC (by omega) he hG (hz a (by omega) (by omega))) h 5 (by omega)
    unfold sc pr
    show CS _ _ _ _ _ (if (!cim st (ct g + b a)) = true then st else if true = true then _ else _)
    simp only [h.2.1, h.2.2.2.2 a (by omega), cb_lt h.2.2.2.1 (show ct g + b a < 1000 by omega)]
    cases cim st (ct g + b a)
    · simp; exact h
    · simp only [Bool.not_true, Bool.false_eq_true, if_false, if_true]
      exact ih _ _ _ (by omega) (fun j h1 h2 => hz j (by omega) h2) hf
end CCnt
