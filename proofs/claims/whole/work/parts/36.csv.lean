/-! THE BEST, COUNTED AGAIN -/
section CSv
theorem fo_in {F : Nat → Bool} {f : Nat → St → St} {P : St → Prop} {s : St} : ∀ n, (∀ e s, e < n → F e = true → P s → P (f e s)) → P s → P (fo F f n s)
  | 0, _, h => h
  | n + 1, hf, h => by
    have ih := fo_in (F := F) (f := f) (P := P) (s := s) n (fun e s he => hf e s (by omega)) h
    unfold fo
    split
    · rename_i h1; exact hf n _ (by omega) h1 ih
    · exact ih
theorem pr_res {S : Sp} {E T : Nat} : ∀ d a g st, a + d = T → pr S E d a g st = st ∨ ∃ g2, Ext S E a T g g2 ∧ pr S E d a g st = some (S.val g2, g2)
  | 0, a, g, st, h => by
    unfold pr
    split
    · exact .inl rfl
    · exact .inr ⟨g, Ext.rf, rfl⟩
  | d + 1, a, g, st, h => by
    have hP : (fo (fun e => S.F e a && S.gok e (ga g a (e + 1))) (fun e s => pr S E d (a + 1) (ga g a (e + 1)) s) E st) = st ∨ ∃ g2, Ext S E a T g g2 ∧ (fo (fun e => S.F e a && S.gok e (ga g a (e + 1))) (fun e s => pr S E d (a + 1) (ga g a (e + 1)) s) E st) = some (S.val g2, g2) := by
      refine fo_in (P := fun s => s = st ∨ ∃ g2, Ext S E a T g g2 ∧ s = some (S.val g2, g2)) E (fun e s he hf hs => ?_) (.inl rfl)
      show pr S E d (a + 1) (ga g a (e + 1)) s = st ∨ _
      rcases pr_res (S := S) (E := E) (T := T) d (a + 1) (ga g a (e + 1)) s (by omega) with h1 | ⟨g2, h1, h2⟩
      · rw [h1]; exact hs
      · exact .inr ⟨g2, h1.gv (by omega) he (by simp at hf; exact hf.1), h2⟩
    unfold pr
    split
    · exact .inl rfl
    · split
      · rcases pr_res (S := S) (E := E) (T := T) d (a + 1) g (fo (fun e => S.F e a && S.gok e (ga g a (e + 1))) (fun e s => pr S E d (a + 1) (ga g a (e + 1)) s) E st) (by omega) with h1 | ⟨g2, h1, h2⟩
        · rw [h1]; exact hP
        · exact .inr ⟨g2, h1.up, h2⟩
      · exact hP
/-- a choice that fits -/
def GF (M : Mem) (E T : Nat) (g : As) : Prop := ∀ j, g j = 0 ∨ (j < T ∧ ∃ e, e < E ∧ fit M e j = true ∧ g j = e + 1)
theorem GF_T (M : Mem) (E T : Nat) : GF M E T (bsg (pr (sT M T) E T 0 g0 none)) := by
  rcases pr_res (S := sT M T) (E := E) (T := T) T 0 g0 none (by omega) with h | ⟨g2, h, h2⟩
  · rw [h]; exact fun _ => .inl rfl
  · rw [h2]
    intro j
    rcases h j with h3 | ⟨_, h3, h4⟩
    · exact .inl h3
    · exact .inr ⟨h3, h4⟩
theorem GF_P (M : Mem) (E T : Nat) : GF M E T (bsg (pr (sP M T) E T 0 g0 none)) := by
  rcases pr_res (S := sP M T) (E := E) (T := T) T 0 g0 none (by omega) with h | ⟨g2, h, h2⟩
  · rw [h]; exact fun _ => .inl rfl
  · rw [h2]
    intro j
    rcases h j with h3 | ⟨_, h3, h4⟩
    · exact .inl h3
    · exact .inr ⟨h3, h4⟩
theorem GF.b {M : Mem} {T : Nat} {g : As} (h : GF M 5 T g) (i : Nat) : g i < 6 := by
  rcases h i with h1 | ⟨_, e, h2, _, h3⟩ <;> omega
theorem cn_cg {M : Mem} {g g2 : As} (h : ∀ i, i < 12 → g i = g2 i) (e : Nat) : cn M g e = cn M g2 e := by
  funext k p
  exact su_eq 12 (fun i hi => by simp only [h i hi])
theorem nd_cg {M : Mem} {g g2 : As} (h : ∀ i, i < 12 → g i = g2 i) (e : Nat) : nd M g e = nd M g2 e := by
  unfold nd
  split
  · exact su_eq 12 (fun i hi => by simp only [h i hi])
  · exact su_eq 10 (fun k _ => by unfold uo; rw [cn_cg h])
def gr (g : As) (k : Nat) : As := fun j => if j < k then g j else 0
theorem gr_s (g : As) (k : Nat) : gr g (k + 1) = ga (gr g k) k (g k) := by
  funext j
  show (if j < k + 1 then g j else 0) = if j = k then g k else if j < k then g j else 0
  by_cases h : j = k
  · subst h; simp
  · rw [if_neg h]
    by_cases h2 : j < k
    · rw [if_pos h2, if_pos (by omega)]
    · rw [if_neg h2, if_neg (by omega)]
theorem CN_chg {M0 A : Mem} {g : As} {i e : Nat} (hD : DI M0) (hC : CR M0) (hi : i < 12) (he : e < 5) (hs : Sm M0 A) (h : ∀ e, e < 5 → CN M0 A g e) (hg : g i = 0) : ∀ e2, e2 < 5 → CN M0 (chg A e i (nI 1)) (ga g i (e + 1)) e2 := fun e2 he2 => by
  by_cases h2 : e2 = e
  · subst h2
    exact giv_CN hs hD hC hi he (h e2 he) hg
  · exact CN_o (h e2 he2) (fun k => chg_x (by omega) (by omega)) (chg_x (by omega) (by omega)) (cn_o (by omega) (by omega)) (nd_o (by omega) (by omega))
theorem dv_btw : ∀ v : Fin 6, btw (dv v.val) (nI 0) (nI 4) = !decide (v.val = 0) := by decide
theorem svG_n {M0 A : Mem} {g : As} (hD : DI M0) (hC : CR M0) (hs : Sm M0 A) (hg : ∀ i, i < 12 → A 7 0 i = dv (g i)) (h6 : ∀ i, i < 12 → g i < 6) (h0 : ∀ e, e < 5 → CN M0 A g0 e) : ∀ k, k ≤ 12 → Sm M0 (itn svG k A) ∧ (∀ i, itn svG k A 7 0 i = A 7 0 i) ∧ ∀ e, e < 5 → CN M0 (itn svG k A) (gr g k) e
  | 0, _ => ⟨hs, fun _ => rfl, fun e he => by
      rw [show gr g 0 = g0 from funext fun j => by unfold gr; rw [if_neg (by omega)]; rfl]
      exact h0 e he⟩
  | k + 1, hk => by
    have ⟨h1, h2, h3⟩ := svG_n hD hC hs hg h6 h0 k (by omega)
    show Sm M0 (svG k (itn svG k A)) ∧ (∀ i, svG k (itn svG k A) 7 0 i = A 7 0 i) ∧ ∀ e, e < 5 → CN M0 (svG k (itn svG k A)) (gr g (k + 1)) e
    generalize itn svG k A = B at h1 h2 h3
    unfold svG
    have h4 := h6 k (by omega)
    have hb := dv_btw ⟨g k, h4⟩
    rw [h2 k, hg k (by omega), hb, gr_s]
    by_cases hz : g k = 0
    · rw [if_neg (by simp [hz]), hz]
      refine ⟨h1, h2, fun e he => CN_o (h3 e he) (fun _ => rfl) rfl (cn_o ?_ (by omega)) (nd_o ?_ (by omega))⟩ <;> (unfold gr; rw [if_neg (by omega)]; omega)
    · rw [if_pos (by simp [hz])]
      have ⟨v, hv⟩ : ∃ v, g k = v + 1 := ⟨g k - 1, by omega⟩
      rw [hv]
      have hx : ix (dv (v + 1)) = v := ixn (by omega)
      rw [hx]
      refine ⟨Sm_chg h1, fun i => by rw [chg_x (by omega) (by omega)]; exact h2 i, CN_chg hD hC (by omega) (by omega) h1 h3 (by unfold gr; rw [if_neg (by omega)])⟩
theorem svB_n {M0 A : Mem} {g : As} (hD : DI M0) (hC : CR M0) (hs : Sm M0 A) (hg : ∀ i, i < 12 → A 7 0 i = dv (g i)) (h6 : ∀ i, i < 12 → g i < 6) : ∀ e, e < 5 → CN M0 (svB A) g e := fun e he => by
  have h := (svG_n hD hC (Sm_cls hs) (g := g) (fun i hi => by unfold cls; rw [clsG_v, if_neg (by omega)]; exact hg i hi) h6 (fun e he => CN_0 he) 12 (Nat.le_refl _)).2.2 e he
  have hq : ∀ i, i < 12 → g i = gr g 12 i := fun i hi => by unfold gr; rw [if_pos hi]
  exact CN_o h (fun _ => rfl) rfl (cn_cg hq e) (nd_cg hq e)
theorem mss_N {M0 M : Mem} {g : As} {e : Nat} (hC : CR M0) (hs : Sm M0 M) (h : CN M0 M g e) (he : e < 5) : mss M e = nI (ms' M0 g e) := by
  have h1 := h.2
  have h2 := (hC.2 e he).2.1
  have h3 := nd_b (g := g) hC he
  have h4 := h2.2
  unfold mss ms' un
  rw [h1, hs 0 e 4 rfl]
  rw [h2.1]
  generalize ix (M0 0 e 4) = u at *
  rw [ixn (by omega)]
  by_cases hu : u ≤ nd M0 g e
  · rw [sub_n hu]
    split
    · rfl
    · rename_i hz
      have : ¬ 0 < nd M0 g e - u := fun z => hz ((nI_ltI (by omega) (by omega)).mpr z)
      rw [show nd M0 g e - u = 0 by omega]
  · have h5 : nI (nd M0 g e) - nI u = -(nI (u - nd M0 g e)) := by
      have h6 := sub_n (n := u) (u := nd M0 g e) (by omega)
      grind
    rw [h5, if_neg (neg_n ⟨u - nd M0 g e, by omega⟩), show nd M0 g e - u = 0 by omega]
/-- all that one entitlement fits -/
def gu (M : Mem) (e k : Nat) : As := fun i => if i < k ∧ fit M e i = true then e + 1 else 0
theorem gu_s (M : Mem) (e k : Nat) : gu M e (k + 1) = if fit M e k = true then ga (gu M e k) k (e + 1) else gu M e k := by
  funext j
  by_cases hf : fit M e k = true
  · rw [if_pos hf]
    unfold gu ga
    by_cases h : j = k
    · subst h; simp [hf]
    · rw [if_neg h]
      have : (j < k + 1) = (j < k) := propext (by omega)
      simp only [this]
  · rw [if_neg hf]
    unfold gu
    by_cases h : j = k
    · subst h; simp [hf]
    · have : (j < k + 1) = (j < k) := propext (by omega)
      simp only [this]
theorem clr_CN {M0 M : Mem} {e : Nat} : CN M0 (clr M e) g0 e := by
  unfold clr
  refine ⟨fun h p h1 h2 _ => ?_, ?_⟩
  · rw [ms_o (by omega), cn_0]
    unfold zf
    rw [if_pos (by omega)]
  · rw [ms_s, nd_0]
theorem ufG_n {M0 A : Mem} {e : Nat} (hD : DI M0) (hC : CR M0) (he : e < 5) (hs : Sm M0 A) (h0 : CN M0 A g0 e) : ∀ k, k ≤ 12 → Sm M0 (itn (ufG e) k A) ∧ CN M0 (itn (ufG e) k A) (gu M0 e k) e
  | 0, _ => ⟨hs, by
      rw [show gu M0 e 0 = g0 from funext fun j => by unfold gu; rw [if_neg (by omega)]; rfl]
      exact h0⟩
  | k + 1, hk => by
    have ⟨h1, h2⟩ := ufG_n hD hC he hs h0 k (by omega)
    show Sm M0 (ufG e k (itn (ufG e) k A)) ∧ CN M0 (ufG e k (itn (ufG e) k A)) (gu M0 e (k + 1)) e
    generalize itn (ufG e) k A = B at h1 h2
    unfold ufG
    rw [fit_sm h1, gu_s]
    split
    · exact ⟨Sm_chg h1, giv_CN h1 hD hC (by omega) he h2 (by unfold gu; rw [if_neg (by omega)])⟩
    · exact ⟨h1, h2⟩
theorem ufa_n {M : Mem} {e : Nat} (hD : DI M) (hC : CR M) (he : e < 5) : ufa M e 0 e 12 = nI (nd M (gu M e 12) e) :=
  (ufG_n hD hC he (Sm_clr Sm.rf) clr_CN 12 (Nat.le_refl _)).2.2
theorem fc_n {M : Mem} (hD : DI M) (hC : CR M) : fcM M 2 0 9 = bst (-1) (bT M) ∧ (∀ i, i < 12 → fcM M 7 0 i = dv (bsg (bT M) i)) ∧ ∀ e, e < 5 → svB (fcM M) 0 e 12 = nI (nd M (bsg (bT M)) e) := by
  have h := fc_CS hD hC
  exact ⟨h.2.1, h.2.2.1, fun e he => (svB_n hD hC h.1.1 h.2.2.1 (fun i _ => (GF_T M 5 12).b i) e he).2⟩
theorem fp_n {M : Mem} (hD : DI M) (hC : CR M) : fpM M 2 0 9 = bst 1000000 (bP M) ∧ ∀ e, e < 5 → mss (svB (fpM M)) e = nI (ms' M (bsg (bP M)) e) := by
  have h := fp_CS hD hC
  exact ⟨h.2.1, fun e he => mss_N hC (Sm_svB h.1.1) (svB_n hD hC h.1.1 h.2.2.1 (fun i _ => (GF_P M 5 12).b i) e he) he⟩
theorem tuG_n {M0 A : Mem} (hs : Sm M0 A) (n : Nat → Nat) (hn : ∀ e, e < 5 → mss A e = nI (n e)) : ∀ k, k ≤ 5 → ∀ c i j, itn tuG k A c i j = if c = 0 ∧ i < k ∧ j = 4 then A 0 i 4 + nI (n i) else A c i j
  | 0, _, c, i, j => by rw [if_neg (by omega)]; rfl
  | k + 1, hk, c, i, j => by
    have ih := tuG_n hs n hn k (by omega)
    show ms (itn tuG k A) 0 k 4 (itn tuG k A 0 k 4 + mss (itn tuG k A) k) c i j = _
    have h1 : mss (itn tuG k A) k = nI (n k) := by
      rw [← hn k (by omega)]
      have e1 : itn tuG k A 0 k 12 = A 0 k 12 := by rw [ih, if_neg (by omega)]
      have e2 : itn tuG k A 0 k 4 = A 0 k 4 := by rw [ih, if_neg (by omega)]
      unfold mss
      rw [e1, e2]
    rw [h1, ih 0 k 4, if_neg (by omega)]
    unfold ms
    rw [ih c i j]
    by_cases h2 : c = 0 ∧ i = k ∧ j = 4
    · rw [if_pos h2, if_pos (by omega), h2.2.1]
    · rw [if_neg h2]
      by_cases h3 : c = 0 ∧ i < k ∧ j = 4
      · rw [if_pos h3, if_pos (by omega)]
      · rw [if_neg h3, if_neg (by omega)]
theorem tu_n {M : Mem} (hD : DI M) (hC : CR M) (c i j : Nat) (hsc : scr c j = false) : tuM M c i j = if c = 0 ∧ i < 5 ∧ j = 4 then M 0 i 4 + nI (ms' M (bsg (bP M)) i) else M c i j := by
  have h := fp_CS hD hC
  have hs : Sm M (svB (fpM M)) := Sm_svB h.1.1
  show itn tuG 5 (svB (fpM M)) c i j = _
  rw [tuG_n hs (ms' M (bsg (bP M))) (fp_n hD hC).2 5 (Nat.le_refl _), hs c i j hsc, hs 0 i 4 rfl]
/-- something is found -/
theorem fo_sm {F : Nat → Bool} {f : Nat → St → St} {s : St} : ∀ n, (∀ e s, e < n → F e = true → (f e s).isSome = true) → (∃ e, e < n ∧ F e = true) → (fo F f n s).isSome = true
  | 0, _, ⟨e, h, _⟩ => by omega
  | n + 1, hf, ⟨e, h, h2⟩ => by
    unfold fo
    split
    · rename_i h1; exact hf n _ (by omega) h1
    · rename_i h1
      exact fo_sm n (fun e s he => hf e s (by omega)) ⟨e, by
        have : e ≠ n := fun z => h1 (by rw [← z]; exact h2)
        omega, h2⟩
theorem cfb_to {M : Mem} {j : Nat} : ∀ k, cfb M j k = true → ∃ e, e < k ∧ fit M e j = true
  | 0, h => by cases h
  | k + 1, h => by
    unfold cfb at h
    cases hf : fit M k j
    · rw [hf] at h
      have ⟨e, h1, h2⟩ := cfb_to k h
      exact ⟨e, by omega, h2⟩
    · exact ⟨k, by omega, hf⟩
theorem bP_sm {M : Mem} (hc : ∀ j, j < 12 → ¬ M 1 j 0 = 0 → cfb M j 5 = true) : ∀ d a g st, a + d = 12 → (pr (sP M 12) 5 d a g st).isSome = true
  | 0, a, g, st, h => by
    unfold pr
    show (if (decide (a = 12) && !imp st (cst M g)) = true then st else some (cst M g, g)).isSome = true
    cases st with
    | none => simp [imp]
    | some q => split <;> rfl
  | d + 1, a, g, st, h => by
    have hcut : (sP M 12).cut a g st = false := by
      show (decide (a = 12) && _) = false
      simp [show ¬ a = 12 by omega]
    unfold pr
    rw [hcut]
    show (if false = true then st else if decide (M 1 a 0 = 0) = true then _ else _).isSome = true
    by_cases h0 : M 1 a 0 = 0
    · simp only [h0, Bool.false_eq_true, if_false, if_true, decide_true]
      exact bP_sm hc d (a + 1) g _ (by omega)
    · simp only [h0, Bool.false_eq_true, if_false, decide_false]
      have ⟨e, h1, h2⟩ := cfb_to 5 (hc a (by omega) h0)
      refine fo_sm 5 (fun e s _ _ => bP_sm hc d (a + 1) _ s (by omega)) ⟨e, h1, ?_⟩
      show (fit M e a && true) = true
      rw [h2]; rfl
theorem bT_sm {M : Mem} : ∀ d a st, a + d = 12 → (pr (sT M 12) 5 d a g0 st).isSome = true
  | 0, a, st, h => by
    unfold pr
    show (if (decide (a = 12) && !(fe M g0 5 0 && cim st (ct g0))) = true then st else some (ct g0, g0)).isSome = true
    cases st with
    | none =>
      rw [fe_of 5 0 (fun k _ _ => ms'_0 M k)]
      simp [cim]
    | some q => split <;> rfl
  | d + 1, a, st, h => by
    have hcut : (sT M 12).cut a g0 st = false := by
      show (decide (a = 12) && _) = false
      simp [show ¬ a = 12 by omega]
    unfold pr
    rw [hcut]
    show (if false = true then st else if true = true then _ else _).isSome = true
    simp only [Bool.false_eq_true, if_false, if_true]
    exact bT_sm d (a + 1) _ (by omega)
theorem ckF_n {M : Mem} : ∀ n i, ckF M n i = true → ∀ j, i ≤ j → j < i + n → ¬ M 1 j 0 = 0 → cfb M j 5 = true
  | 0, i, _, j, h1, h2, _ => by omega
  | n + 1, i, h, j, h1, h2, h3 => by
    unfold ckF at h
    simp only [Bool.and_eq_true] at h
    by_cases hj : j = i
    · have ⟨m, h4, h5, h6⟩ := cf_n M i 5
      subst hj
      have h7 := h.1
      rw [h5] at h7
      cases hb : cfb M j 5
      · rw [h6.mpr hb] at h7
        simp [h3] at h7
        exact absurd rfl h7
      · rfl
    · exact ckF_n n (i + 1) h.2 j (by omega) (by omega) h3
theorem bP_k {M : Mem} (h : ckF M 12 0 = true) : (bP M).isSome = true := bP_sm (fun j hj h1 => ckF_n 12 0 h j (by omega) (by omega) h1) 12 0 g0 none (by omega)
theorem bT_k (M : Mem) : (bT M).isSome = true := bT_sm 12 0 none (by omega)
end CSv
