/-! THE MODEL'S SEARCHES ARE THE SEARCH -/
section MSea
def MX (C M : Mem) (mn en : Nat) (P : Nat → Prop) (g : As) (st : St) : Prop := RS C M mn en ∧ GF C en mn g ∧ (∀ i, i < mn → P i → M 29 0 i = dv (g i)) ∧ M 3 0 4 = bst (-1) st ∧ ∀ q, st = some q → q.1 < 1000000 ∧ ∀ i, i < mn → M 30 0 i = dv (q.2 i)
abbrev MS (C M : Mem) (mn en : Nat) (g : As) (st : St) : Prop := MX C M mn en (fun _ => True) g st
abbrev MI (C M : Mem) (mn en a : Nat) (g : As) (st : St) : Prop := MX C M mn en (fun i => i ≠ a) g st
theorem MX.KA {C M : Mem} {mn en : Nat} {g : As} {st : St} (h : MS C M mn en g st) : KA C M mn en g := ⟨h.1, h.2.1, fun i hi _ => h.2.2.1 i hi trivial⟩
theorem MX.s31 {C M M1 : Mem} {mn en : Nat} {P : Nat → Prop} {g : As} {st : St} (h : MX C M mn en P g st) (hs : S31 M M1) : MX C M1 mn en P g st :=
  ⟨h.1.mm hs.mm, h.2.1, fun i hi hp => by rw [hs 29 0 i (by decide)]; exact h.2.2.1 i hi hp, by rw [hs 3 0 4 (by decide)]; exact h.2.2.2.1, fun q hq => ⟨(h.2.2.2.2 q hq).1, fun i hi => by rw [hs 30 0 i (by decide)]; exact (h.2.2.2.2 q hq).2 i hi⟩⟩
theorem MX.b {C M : Mem} {mn en : Nat} {P : Nat → Prop} {g : As} {st : St} (h : MX C M mn en P g st) : ∀ q, st = some q → q.1 < 1000000 := fun q hq => (h.2.2.2.2 q hq).1
theorem GF_ga {C : Mem} {mn en a e : Nat} {g : As} (h : GF C en mn g) (ha : a < mn) (he : e < en) (hf : fit C e a = true) : GF C en mn (ga g a (e + 1)) := fun j => by
  by_cases hj : j = a
  · subst hj; exact .inr ⟨ha, e, he, hf, ga_s _ _ _⟩
  · rw [ga_o hj]; exact h j
theorem MI_set {C A : Mem} {mn en a e : Nat} {g : As} {st : St} (h : MI C A mn en a g st) (ha : a < mn) (he : e < en) (hf : fit C e a = true) : MS C (ms A 29 0 a (nI e)) mn en (ga g a (e + 1)) st :=
  ⟨h.1.mm (Mm_ms Mm.rf rfl), GF_ga h.2.1 ha he hf, fun i hi _ => by
    by_cases hj : i = a
    · subst hj; rw [ms_s, ga_s]; rfl
    · rw [ms_o (by omega), ga_o hj]; exact h.2.2.1 i hi hj, by rw [ms_o (by omega)]; exact h.2.2.2.1, fun q hq => ⟨(h.2.2.2.2 q hq).1, fun i hi => by rw [ms_o (by omega)]; exact (h.2.2.2.2 q hq).2 i hi⟩⟩
theorem MS_x {C A : Mem} {mn en a e : Nat} {g : As} {st : St} (hg : GF C en mn g) (h : MS C A mn en (ga g a (e + 1)) st) : MI C A mn en a g st :=
  ⟨h.1, hg, fun i hi hp => by rw [h.2.2.1 i hi trivial, ga_o hp], h.2.2.2⟩
theorem MI_un {C A : Mem} {mn en a : Nat} {g : As} {st : St} (h : MI C A mn en a g st) (hg : g a = 0) : MS C (ms A 29 0 a (-1)) mn en g st :=
  ⟨h.1.mm (Mm_ms Mm.rf rfl), h.2.1, fun i hi _ => by
    by_cases hj : i = a
    · subst hj; rw [ms_s, hg]; rfl
    · rw [ms_o (by omega)]; exact h.2.2.1 i hi hj, by rw [ms_o (by omega)]; exact h.2.2.2.1, fun q hq => ⟨(h.2.2.2.2 q hq).1, fun i hi => by rw [ms_o (by omega)]; exact (h.2.2.2.2 q hq).2 i hi⟩⟩
theorem MX.fold {C : Mem} {mn en : Nat} {P : Nat → Prop} {g : As} {R : Nat → Mem → Mem} {F : Nat → Bool} {f : Nat → St → St} (h : ∀ e A st, e < en → MX C A mn en P g st → MX C (R e A) mn en P g (if F e = true then f e st else st)) {A : Mem} {st : St} (hA : MX C A mn en P g st) : ∀ n, n ≤ en → MX C (itn R n A) mn en P g (fo F f n st)
  | 0, _ => hA
  | n + 1, hn => h n _ _ (by omega) (MX.fold h hA n (by omega))
theorem tkG_n {A : Mem} {c i j : Nat} : ∀ k, itn tkG k A c i j = if c = 30 ∧ i = 0 ∧ j < k then A 29 0 j else A c i j
  | 0 => by rw [if_neg (by omega)]; rfl
  | k + 1 => by
    show ms (itn tkG k A) 30 0 k (itn tkG k A 29 0 k) c i j = _
    rw [tkG_n (i := 0) (j := k) (c := 29) k, if_neg (by omega)]
    unfold ms
    rw [tkG_n k]
    by_cases h1 : c = 30 ∧ i = 0 ∧ j = k
    · rw [if_pos h1, if_pos (by omega), h1.2.2]
    · rw [if_neg h1]
      by_cases h2 : c = 30 ∧ i = 0 ∧ j < k
      · rw [if_pos h2, if_pos (by omega)]
      · rw [if_neg h2, if_neg (by omega)]
theorem ptG_n {A : Mem} {c i j : Nat} : ∀ k, itn ptG k A c i j = if c = 29 ∧ i = 0 ∧ j < k then A 30 0 j else A c i j
  | 0 => by rw [if_neg (by omega)]; rfl
  | k + 1 => by
    show ms (itn ptG k A) 29 0 k (itn ptG k A 30 0 k) c i j = _
    rw [ptG_n (i := 0) (j := k) (c := 30) k, if_neg (by omega)]
    unfold ms
    rw [ptG_n k]
    by_cases h1 : c = 29 ∧ i = 0 ∧ j = k
    · rw [if_pos h1, if_pos (by omega), h1.2.2]
    · rw [if_neg h1]
      by_cases h2 : c = 29 ∧ i = 0 ∧ j < k
      · rw [if_pos h2, if_pos (by omega)]
      · rw [if_neg h2, if_neg (by omega)]
theorem bgG_n {A : Mem} {c i j : Nat} : ∀ k, itn bgG k A c i j = if c = 29 ∧ i = 0 ∧ j < k then -1 else A c i j
  | 0 => by rw [if_neg (by omega)]; rfl
  | k + 1 => by
    show ms (itn bgG k A) 29 0 k (-1) c i j = _
    unfold ms
    rw [bgG_n k]
    by_cases h1 : c = 29 ∧ i = 0 ∧ j = k
    · rw [if_pos h1, if_pos (by omega)]
    · rw [if_neg h1]
      by_cases h2 : c = 29 ∧ i = 0 ∧ j < k
      · rw [if_pos h2, if_pos (by omega)]
      · rw [if_neg h2, if_neg (by omega)]
theorem RS.mn {C M : Mem} {mn en : Nat} (h : RS C M mn en) : ix (M 3 0 1) = mn := by rw [h.1.2.1]; exact ixn (by have := h.1.2.2.2.2.1; omega)
theorem RS.en {C M : Mem} {mn en : Nat} (h : RS C M mn en) : ix (M 3 0 3) = en := by rw [h.1.2.2.2.1]; exact ixn (by have := h.1.2.2.2.2.2; omega)
theorem MS_keep {C M : Mem} {mn en : Nat} {g : As} {st : St} {v : Nat} (hv : v < 1000000) (h : MS C M mn en g st) : MS C (tkN (ms M 3 0 4 (nI v))) mn en g (some (v, g)) := by
  have h0 : RS C (ms M 3 0 4 (nI v)) mn en := h.1.mm (Mm_ms Mm.rf rfl)
  refine ⟨h0.mm (Mm_tk Mm.rf), h.2.1, fun i hi _ => ?_, ?_, fun q hq => ?_⟩
  · unfold tkN; rw [tkG_n, if_neg (by omega), ms_o (by omega)]; exact h.2.2.1 i hi trivial
  · unfold tkN; rw [tkG_n, if_neg (by omega), ms_s]; rfl
  · cases hq
    refine ⟨hv, fun i hi => ?_⟩
    unfold tkN
    rw [h0.mn, tkG_n, if_pos ⟨rfl, rfl, hi⟩, ms_o (by omega)]
    exact h.2.2.1 i hi trivial
theorem n_m1 : ∀ k : Nat, k < 1000000 → ¬ nI k = -1 := fun k hk z => by
  have h1 : ix (nI k) = ix (-1) := by rw [z]
  rw [ixn (by omega)] at h1
  have h2 : ix (-1) = 0 := by decide
  rw [h1, h2] at z
  exact absurd z (by decide)
theorem mi_lt {st : St} {v : Nat} (hb : ∀ q, st = some q → q.1 < 1000000) (hv : v < 1000000) : (bst (-1) st = -1 ∨ nI v < bst (-1) st) = (imp st v = true) := by
  cases st with
  | none => simp only [bst, imp, true_or]
  | some q =>
    have h1 := hb q rfl
    simp only [bst, imp, n_m1 q.1 h1, false_or, nI_ltI (show v < 2 ^ 31 by omega) (show q.1 < 2 ^ 31 by omega)]
    simp
theorem bs_s {C : Mem} {mn en : Nat} (hD : DI C) (hC : CR C) : ∀ d a M g st, a + d = mn → (∀ j, a ≤ j → j < mn → g j = 0) → MS C M mn en g st → MS C (bs d a M) mn en g (pr (sPp C) en d a g st)
  | 0, a, M, g, st, ha, _, h => by
    have hb := cst_b (g := g) hC
    have ⟨h1, h2⟩ := cs_n hD hC h.KA
    have h3 := h.s31 h1
    unfold bs pr
    show MS C _ mn en g (if (!imp st (cst C g)) = true then st else some (cst C g, g))
    rw [h2]
    simp only [h3.2.2.2.1, mi_lt h.b (show cst C g < 1000000 by omega)]
    cases hi : imp st (cst C g)
    · simp; exact h3
    · simp; exact MS_keep (by omega) h3
  | d + 1, a, M, g, st, ha, hz, h => by
    have hb := cst_b (g := g) hC
    have ih := bs_s (mn := mn) (en := en) hD hC d (a + 1)
    have ⟨h1, h2⟩ := cs_n hD hC h.KA
    have h3 := h.s31 h1
    have h5 : (csM M 17 0 a = 0) = ¬ C 1 a 0 = 0 := th_n h3.1 (by omega)
    unfold bs pr
    show MS C _ mn en g (if (!imp st (cst C g)) = true then st else if decide (C 1 a 0 = 0) = true then _ else _)
    rw [h2]
    simp only [h3.2.2.2.1, mi_lt h.b (show cst C g < 1000000 by omega), h5]
    cases hi : imp st (cst C g)
    · simp; exact h3
    · by_cases h0 : C 1 a 0 = 0
      · simp only [h0, Bool.not_true, Bool.false_eq_true, if_false, if_true, decide_true, not_true]
        have hfo : fo (fun e => fit C e a && true) (fun e s => pr (sPp C) en d (a + 1) (ga g a (e + 1)) s) en st = st := fo_id en (fun e _ hq => by simp [fit, h0] at hq)
        show MS C _ mn en g (pr (sPp C) en d (a + 1) g (fo (fun e => fit C e a && true) (fun e s => pr (sPp C) en d (a + 1) (ga g a (e + 1)) s) en st))
        rw [hfo]
        exact ih _ _ _ (by omega) (fun j h1 h2 => hz j (by omega) h2) h3
      · simp only [h0, Bool.not_true, Bool.false_eq_true, if_false, if_true, decide_false, not_false_eq_true]
        rw [h.1.en]
        refine MI_un (MX.fold (R := bsG (bs d) a) (F := fun e => fit C e a && true) (f := fun e s => pr (sPp C) en d (a + 1) (ga g a (e + 1)) s) (fun e A s he hA => ?_) ⟨h3.1, h3.2.1, fun i hi _ => h3.2.2.1 i hi trivial, h3.2.2.2⟩ en (Nat.le_refl _)) (hz a (by omega) (by omega))
        unfold bsG
        have ht : A 17 0 a = 0 := by rw [th_n hA.1 (by omega)]; exact h0
        rw [fim_n hD hA.1 (by omega) he ht]
        cases hq : fit C e a
        · simp; exact hA
        · simp
          exact MS_x hA.2.1 (ih _ _ _ (by omega) (fun j h1 h2 => by rw [ga_o (by omega)]; exact hz j (by omega) h2) (MI_set hA (by omega) he hq))
theorem lf_st {C : Mem} {a : Nat} (ha : a < 12) : lf C a = lf C (a + 1) + if C 1 a 0 = 0 then 0 else 1 := by
  have h1 := su_ch (f := fun j => if a + 1 ≤ j ∧ ¬ C 1 j 0 = 0 then 1 else 0) (f2 := fun j => if a ≤ j ∧ ¬ C 1 j 0 = 0 then 1 else 0) (k := a) (fun j hj => by
    have : (a ≤ j) = (a + 1 ≤ j) := propext (by omega)
    simp only [this]) 12 (by omega)
  rw [if_neg (by omega)] at h1
  have h2 : (if a ≤ a ∧ ¬ C 1 a 0 = 0 then 1 else 0) = if C 1 a 0 = 0 then 0 else 1 := by
    by_cases h : C 1 a 0 = 0 <;> simp [h]
  rw [h2] at h1
  unfold lf
  omega
theorem lf_b {C : Mem} {a : Nat} : lf C a ≤ 12 := su_b (b := 1) 12 (fun i _ => by
  show (if a ≤ i ∧ ¬ C 1 i 0 = 0 then 1 else 0) ≤ 1
  split <;> omega)
theorem kv_s {C : Mem} {mn en : Nat} (hD : DI C) (hC : CR C) : ∀ d a M g st, a + d = mn → (∀ j, a ≤ j → j < mn → g j = 0) → MS C M mn en g st → MS C (kv d a (nI (ct g)) (nI (lf C a)) M) mn en g (pr (sB C (lf C)) en d a g st)
  | 0, a, M, g, st, ha, _, h => by
    have hc := ct_b g
    have hb1 : lf C a ≤ 12 := lf_b
    unfold kv pr
    show MS C _ mn en g (if (!cim st (ct g + lf C a)) = true then st else some (ct g, g))
    simp only [h.2.2.2.1, cb_lt h.b (show ct g + lf C a < 1000 by omega)]
    cases cim st (ct g + lf C a)
    · simp; exact h
    · simp; exact MS_keep (by omega) h
  | d + 1, a, M, g, st, ha, hz, h => by
    have hc := ct_b g
    have hb1 : lf C a ≤ 12 := lf_b
    have hm12 := h.1.1.2.2.2.2.1
    have he6 := h.1.1.2.2.2.2.2
    have ih := kv_s (mn := mn) (en := en) hD hC d (a + 1)
    have h5 : (M 17 0 a = 0) = ¬ C 1 a 0 = 0 := th_n h.1 (by omega)
    have hl := lf_st (C := C) (a := a) (by omega)
    unfold kv pr
    show MS C _ mn en g (if (!cim st (ct g + lf C a)) = true then st else if true = true then _ else _)
    simp only [h.2.2.2.1, cb_lt h.b (show ct g + lf C a < 1000 by omega), h5]
    cases cim st (ct g + lf C a)
    · simp; exact h
    · simp only [Bool.not_true, Bool.false_eq_true, if_false, if_true]
      by_cases h0 : C 1 a 0 = 0
      · rw [if_pos h0] at hl
        rw [if_neg (fun z => z h0)]
        have hfo : fo (fun e => fit C e a && decide (ms' C (ga g a (e + 1)) e = 0)) (fun e s => pr (sB C (lf C)) en d (a + 1) (ga g a (e + 1)) s) en st = st := fo_id en (fun e _ hq => by simp [fit, h0] at hq)
        show MS C _ mn en g (pr (sB C (lf C)) en d (a + 1) g (fo (fun e => fit C e a && decide (ms' C (ga g a (e + 1)) e = 0)) (fun e s => pr (sB C (lf C)) en d (a + 1) (ga g a (e + 1)) s) en st))
        rw [hfo, hl]
        exact ih _ _ _ (by omega) (fun j h1 h2 => hz j (by omega) h2) h
      · rw [if_neg h0] at hl
        rw [if_pos h0]
        have hl2 : nI (lf C a) - nI 1 = nI (lf C (a + 1)) := by rw [hl, ← nI_add]; grind
        rw [hl2]
        refine ih _ _ _ (by omega) (fun j h1 h2 => hz j (by omega) h2) ?_
        rw [h.1.en]
        refine MI_un (MX.fold (R := kvG (kv d) a (nI (ct g)) (nI (lf C a))) (F := fun e => fit C e a && decide (ms' C (ga g a (e + 1)) e = 0)) (f := fun e s => pr (sB C (lf C)) en d (a + 1) (ga g a (e + 1)) s) (fun e A s he hA => ?_) ⟨h.1, h.2.1, fun i hi _ => h.2.2.1 i hi trivial, h.2.2.2⟩ en (Nat.le_refl _)) (hz a (by omega) (by omega))
        unfold kvG
        have ht : A 17 0 a = 0 := by rw [th_n hA.1 (by omega)]; exact h0
        rw [fim_n hD hA.1 (by omega) he ht]
        cases hq : fit C e a
        · simp; exact hA
        · have hS := MI_set hA (by omega) he hq
          have hN := hS.s31 (ndM_s hD hS.KA he)
          have h1 := (hC.2 e (by omega)).2.1
          have h2 := nd_b (g := ga g a (e + 1)) (e := e) hC (by omega)
          have h3 := h1.2
          have hcond : (ndM (ms A 29 0 a (nI e)) e 24 0 e < ndV (ms A 29 0 a (nI e)) e) = ¬ (ms' C (ga g a (e + 1)) e = 0) := by
            rw [ndV_n hD hC hS.KA he, (hN.1.2.2.2.2.1 e he).2.2.2.2.2.2.1, h1.1]
            unfold ms' un
            rw [nI_ltI (by omega) (by omega)]
            exact propext (by omega)
          simp only [hcond, if_true, Bool.true_and]
          by_cases hm : ms' C (ga g a (e + 1)) e = 0
          · simp [hm]
            rw [hl2, nI_add, ← ct_ch (v := e) (by omega) (hz a (by omega) (by omega))]
            exact MS_x hA.2.1 (ih _ _ _ (by omega) (fun j h1 h2 => by rw [ga_o (by omega)]; exact hz j (by omega) h2) hN)
          · simp [hm]
            exact MS_x hA.2.1 hN
theorem bg_MS {C M : Mem} {mn en : Nat} (h : RS C M mn en) : MS C (bgN M) mn en g0 none := by
  have h0 : RS C (ms M 3 0 4 (-1)) mn en := h.mm (Mm_ms Mm.rf rfl)
  refine ⟨h.mm (Mm_bg Mm.rf), fun _ => .inl rfl, fun i hi _ => ?_, ?_, fun q hq => by cases hq⟩
  · unfold bgN; rw [h.mn, bgG_n, if_pos ⟨rfl, rfl, hi⟩]; rfl
  · unfold bgN; rw [bgG_n, if_neg (by omega), ms_s]; rfl
theorem bT_m {C M : Mem} {mn en : Nat} (h : RS C M mn en) : pr (sB C (lf C)) en mn 0 g0 none = bT C := by
  have hm := h.1.2.2.2.2.1
  have he := h.1.2.2.2.2.2
  rw [pr_T C en mn (lf C) (fun a _ => su_le 12 (fun j _ => by
    show (if a ≤ j ∧ j < mn ∧ cfb C j en = true then 1 else 0) ≤ if a ≤ j ∧ ¬ C 1 j 0 = 0 then 1 else 0
    by_cases hq : a ≤ j ∧ j < mn ∧ cfb C j en = true
    · have ⟨e, _, h2⟩ := cfb_to en hq.2.2
      rw [if_pos hq, if_pos ⟨hq.1, fit_t h2⟩]; omega
    · rw [if_neg hq]; omega)) (su_0 12 (fun j hj => by
    by_cases hq : mn ≤ j
    · rw [if_neg (fun z => z.2 (h.2.2.2.1 j hq hj).1)]
    · rw [if_neg (fun z => hq z.1)])) (by omega)]
  have h1 := pr_sk (S := sT C 12) (S2 := sT C mn) (E := 5) (E2 := en) (mn := mn) (T := 12) rfl rfl rfl rfl (by omega) (by omega) (fun a g st ha => by
    show (decide (a = 12) && _) = false
    simp [show ¬ a = 12 by omega]) (fun a g st ha => by
    show (decide (a = mn) && _) = false
    simp [show ¬ a = mn by omega]) (fun g st => by
    show (decide (12 = 12) && !(fe C g 5 0 && cim st (ct g))) = (decide (mn = mn) && !(fe C g 5 0 && cim st (ct g)))
    simp) (fun j h1 h2 => ⟨rfl, fun e _ => h.Fi h1 h2⟩) (fun e j h1 h2 => h.Fe h1 h2) mn 0 g0 none (by omega)
  rw [show mn + (12 - mn) = 12 by omega] at h1
  exact h1.symm
theorem bP_m {C M : Mem} {mn en : Nat} (h : RS C M mn en) : pr (sPp C) en mn 0 g0 none = bP C := by
  have hm := h.1.2.2.2.2.1
  have he := h.1.2.2.2.2.2
  rw [pr_P C en mn]
  have h1 := pr_sk (S := sP C 12) (S2 := sP C mn) (E := 5) (E2 := en) (mn := mn) (T := 12) rfl rfl rfl rfl (by omega) (by omega) (fun a g st ha => by
    show (decide (a = 12) && _) = false
    simp [show ¬ a = 12 by omega]) (fun a g st ha => by
    show (decide (a = mn) && _) = false
    simp [show ¬ a = mn by omega]) (fun g st => by
    show (decide (12 = 12) && !imp st (cst C g)) = (decide (mn = mn) && !imp st (cst C g))
    simp) (fun j h1 h2 => ⟨decide_eq_true (h.2.2.2.1 j h1 h2).1, fun e _ => h.Fi h1 h2⟩) (fun e j h1 h2 => h.Fe h1 h2) mn 0 g0 none (by omega)
  rw [show mn + (12 - mn) = 12 by omega] at h1
  exact h1.symm
theorem pt_KA {C M : Mem} {mn en : Nat} {g : As} {st : St} (h : MS C M mn en g st) (hs : st.isSome = true) (hG : GF C en mn (bsg st)) : KA C (ptN M) mn en (bsg st) ∧ (∀ i, i < mn → ptN M 29 0 i = dv (bsg st i)) ∧ ptN M 3 0 4 = bst (-1) st := by
  cases st with
  | none => cases hs
  | some q =>
    have h1 : ∀ i, i < mn → ptN M 29 0 i = dv (q.2 i) := fun i hi => by
      unfold ptN
      rw [h.1.mn, ptG_n, if_pos ⟨rfl, rfl, hi⟩]
      exact (h.2.2.2.2 q rfl).2 i hi
    refine ⟨⟨h.1.mm (Mm_pt Mm.rf), hG, fun i hi _ => h1 i hi⟩, h1, ?_⟩
    unfold ptN
    rw [ptG_n, if_neg (by omega)]
    exact h.2.2.2.1
theorem coM_n {C M : Mem} {mn en : Nat} (hD : DI C) (hC : CR C) (h : RS C M mn en) : KA C (coM M) mn en (bsg (bT C)) ∧ (∀ i, i < mn → coM M 29 0 i = dv (bsg (bT C) i)) ∧ coM M 3 0 4 = bst (-1) (bT C) := by
  have hb := bg_MS h
  have hT := bT_m h
  have h1 := kv_s hD hC mn 0 _ g0 none (by omega) (fun _ _ _ => rfl) hb
  have h2 : bgN M 3 0 2 = nI (lf C 0) := by rw [hb.1.2.1.1]; exact hb.1.2.1.2
  rw [ct_0, ← h2, hT] at h1
  unfold coM
  rw [h.mn]
  refine pt_KA h1 (bT_k C) ?_
  rw [← hT, pr_T C en mn (lf C) (fun a _ => su_le 12 (fun j _ => by
    show (if a ≤ j ∧ j < mn ∧ cfb C j en = true then 1 else 0) ≤ if a ≤ j ∧ ¬ C 1 j 0 = 0 then 1 else 0
    by_cases hq : a ≤ j ∧ j < mn ∧ cfb C j en = true
    · have ⟨e, _, h2⟩ := cfb_to en hq.2.2
      rw [if_pos hq, if_pos ⟨hq.1, fit_t h2⟩]; omega
    · rw [if_neg hq]; omega)) (su_0 12 (fun j hj => by
    by_cases hq : mn ≤ j
    · rw [if_neg (fun z => z.2 (h.2.2.2.1 j hq hj).1)]
    · rw [if_neg (fun z => hq z.1)])) (by have := h.1.2.2.2.2.2; omega)]
  exact GF_T C en mn
theorem puM_n {C M : Mem} {mn en : Nat} (hD : DI C) (hC : CR C) (h : RS C M mn en) (hs : (bP C).isSome = true) : KA C (puM M) mn en (bsg (bP C)) ∧ (∀ i, i < mn → puM M 29 0 i = dv (bsg (bP C) i)) ∧ puM M 3 0 4 = bst (-1) (bP C) := by
  have h0 : RS C (ms M 3 0 0 (nI 0)) mn en := h.mm (Mm_ms Mm.rf rfl)
  have hb := bg_MS h0
  have hT := bP_m h
  have h1 := bs_s hD hC mn 0 _ g0 none (by omega) (fun _ _ _ => rfl) hb
  rw [hT] at h1
  unfold puM
  rw [h.mn]
  refine pt_KA h1 hs ?_
  rw [← hT, pr_P C en mn]
  exact GF_P C en mn
end MSea
