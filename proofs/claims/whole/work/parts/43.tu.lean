/-! CLASS AND MODEL AGREE: true-ups and coverage -/
section Tu
def cU (C : Mem) (n : Nat → Nat) (k : Nat) : Mem := fun c i j => if c = 0 ∧ i < k ∧ j = 4 then C 0 i 4 + nI (n i) else C c i j
theorem cU_o {C : Mem} {n : Nat → Nat} {k c i j : Nat} (h : ¬ (c = 0 ∧ i < k ∧ j = 4)) : cU C n k c i j = C c i j := if_neg h
theorem cU_p {C : Mem} {n : Nat → Nat} {k i : Nat} (h : i < k) : cU C n k 0 i 4 = C 0 i 4 + nI (n i) := if_pos ⟨rfl, h, rfl⟩
theorem nd_cM {C C1 : Mem} (h0 : ∀ e k, k ≠ 4 → C1 0 e k = C 0 e k) (h1 : ∀ i k, C1 1 i k = C 1 i k) (g : As) (e : Nat) : nd C1 g e = nd C g e := by
  have hh : ∀ i, hl C1 e i = hl C e i := fun i => by
    unfold hl
    rw [h0 e 3 (by decide), h1, h1]
  have hc : cn C1 g e = cn C g e := by
    funext k p
    unfold cn
    simp only [hh, h1]
  unfold nd uo co
  simp only [h0 e 3 (by decide), h0 e 10 (by decide), h0 e 6 (by decide), h1, hc]
theorem fit_cM {C C1 : Mem} (h0 : ∀ e k, k ≠ 4 → C1 0 e k = C 0 e k) (h1 : ∀ i k, C1 1 i k = C 1 i k) (e i : Nat) : fit C1 e i = fit C e i := by
  unfold fit mis
  rw [h1 i 0, h0 e 0 (by decide), h1 i 1, h0 e 5 (by decide), h1 i 7, h0 e 2 (by decide), h1 i 3, h0 e 8 (by decide), h0 e 1 (by decide), h1 i 2, h0 e 9 (by decide)]
theorem cU_0 {C : Mem} {n : Nat → Nat} {k : Nat} (e j : Nat) (h : j ≠ 4) : cU C n k 0 e j = C 0 e j := cU_o (by omega)
theorem cU_1 {C : Mem} {n : Nat → Nat} {k : Nat} (i j : Nat) : cU C n k 1 i j = C 1 i j := cU_o (by omega)
theorem cU_D {C : Mem} {n : Nat → Nat} {k : Nat} (h : DI C) : DI (cU C n k) := by
  unfold DI
  rw [cU_o (by omega), cU_o (by omega), cU_o (by omega)]
  refine ⟨h.1, h.2.1, h.2.2.1, fun i hi => ?_⟩
  rw [cU_1, cU_1, cU_1]
  exact h.2.2.2 i hi
theorem cU_R {C : Mem} {g : As} {e : Nat} (hC : CR C) (he : e < 5) : Rg (C 0 e 4 + nI (ms' C g e)) 1000 := by
  have h1 := (hC.2 e he).2.1
  have h2 := nd_b (g := g) hC he
  have h3 := h1.2
  unfold ms' un
  rw [h1.1]
  generalize ix (C 0 e 4) = u at *
  rw [ixn (by omega), nI_add]
  exact Rg_n (by omega) (by omega)
theorem cU_C {C : Mem} {g : As} {k : Nat} (hC : CR C) : CR (cU C (ms' C g) k) := by
  refine ⟨fun i hi => ?_, fun e he => ?_⟩
  · rw [cU_1]; exact hC.1 i hi
  · rw [cU_0 e 6 (by decide), cU_0 e 7 (by decide)]
    refine ⟨(hC.2 e he).1, ?_, (hC.2 e he).2.2⟩
    by_cases hk : e < k
    · rw [cU_p hk]; exact cU_R hC he
    · rw [cU_o (by omega)]; exact (hC.2 e he).2.1
theorem tuH_n {C M : Mem} {mn en : Nat} {g : As} (hD : DI C) (hC : CR C) (hK : KA C M mn en g) : ∀ k, k ≤ en → KA (cU C (ms' C g) k) (itn tuH k M) mn en g ∧ ∀ c i j, c ≠ 31 → c ≠ 24 → itn tuH k M c i j = M c i j
  | 0, _ => by
    have h0 : cU C (ms' C g) 0 = C := by
      funext c i j
      exact cU_o (by omega)
    rw [h0]
    exact ⟨hK, fun _ _ _ _ _ => rfl⟩
  | k + 1, hk => by
    have ⟨h1, h2⟩ := tuH_n hD hC hK k (by omega)
    have he6 := hK.1.1.2.2.2.2.2
    show KA (cU C (ms' C g) (k + 1)) (tuH k (itn tuH k M)) mn en g ∧ ∀ c i j, c ≠ 31 → c ≠ 24 → tuH k (itn tuH k M) c i j = M c i j
    generalize hA : itn tuH k M = A at h1 h2
    have hS := ndM_s (cU_D hD) h1 (show k < en by omega)
    have hb : byV A k = nI (ms' C g k) := by
      rw [byV_n (cU_D hD) (cU_C hC) h1 (by omega)]
      congr 1
      unfold ms' un
      rw [nd_cM (fun e j h => cU_0 e j h) (fun i j => cU_1 i j), cU_o (by omega)]
    have h24 : A 24 0 k = C 0 k 4 := by
      rw [(h1.1.2.2.2.2.1 k (by omega)).2.2.2.2.2.2.1, cU_o (by omega)]
    have hc : ∀ c i j, c ≠ 31 → ¬ (c = 24 ∧ i = 0 ∧ j = k) → tuH k A c i j = A c i j := fun c i j h3 h4 => by
      unfold tuH
      rw [ms_o h4]; exact hS c i j h3
    have hn : tuH k A 24 0 k = C 0 k 4 + nI (ms' C g k) := by
      unfold tuH
      rw [ms_s, hb, h24]
    have hu : ∀ c i j, ¬ (c = 0 ∧ i = k ∧ j = 4) → cU C (ms' C g) (k + 1) c i j = cU C (ms' C g) k c i j := fun c i j h3 => by
      by_cases h4 : c = 0 ∧ i < k ∧ j = 4
      · obtain ⟨rfl, h5, rfl⟩ := h4
        rw [cU_p h5, cU_p (by omega)]
      · rw [cU_o h4, cU_o (by omega)]
    refine ⟨⟨?_, fun j => ?_, fun i hi ht => ?_⟩, fun c i j h3 h4 => (hc c i j h3 (by omega)).trans (h2 c i j h3 h4)⟩
    · have h := h1.1
      unfold RS RI RE RR at h ⊢
      refine ⟨?_, ?_, fun i hi => ?_, fun i h3 h4 => ?_, fun e he => ?_, fun e h3 h4 => ?_, fun e he => ?_⟩
      · rw [hc 3 0 1 (by omega) (by omega), hc 3 0 3 (by omega) (by omega), hu 2 0 2 (by omega), hu 2 0 4 (by omega)]
        exact h.1
      · rw [hc 3 0 2 (by omega) (by omega), hu 2 0 3 (by omega), lf_cg (M := cU C (ms' C g) k) (fun i _ => by rw [hu 1 i 0 (by omega)])]
        exact h.2.1
      · rw [hu 1 i 0 (by omega), hu 1 i 1 (by omega), hu 1 i 2 (by omega), hu 1 i 3 (by omega), hu 1 i 4 (by omega), hu 1 i 5 (by omega), hu 1 i 6 (by omega), hu 1 i 7 (by omega), hc 17 0 i (by omega) (by omega), hc 10 0 i (by omega) (by omega), hc 11 0 i (by omega) (by omega), hc 12 0 i (by omega) (by omega), hc 13 0 i (by omega) (by omega), hc 14 0 i (by omega) (by omega), hc 15 0 i (by omega) (by omega), hc 16 0 i (by omega) (by omega)]
        exact h.2.2.1 i hi
      · rw [hu 1 i 0 (by omega), hc 17 0 i (by omega) (by omega)]
        exact h.2.2.2.1 i h3 h4
      · have hq := h.2.2.2.2.1 e he
        rw [hu 0 e 0 (by omega), hu 0 e 1 (by omega), hu 0 e 2 (by omega), hu 0 e 3 (by omega), hu 0 e 5 (by omega), hu 0 e 6 (by omega), hu 0 e 7 (by omega), hc 21 0 e (by omega) (by omega), hc 22 0 e (by omega) (by omega), hc 23 0 e (by omega) (by omega), hc 25 0 e (by omega) (by omega), hc 26 0 e (by omega) (by omega), hc 27 0 e (by omega) (by omega), hc 28 0 e (by omega) (by omega)]
        refine ⟨hq.1, hq.2.1, hq.2.2.1, hq.2.2.2.1, hq.2.2.2.2.1, hq.2.2.2.2.2.1, ?_, hq.2.2.2.2.2.2.2⟩
        by_cases hek : e = k
        · rw [hek, hn, cU_p (by omega)]
        · rw [hc 24 0 e (by omega) (by omega), hu 0 e 4 (by omega)]
          exact hq.2.2.2.2.2.2.1
      · rw [hu 0 e 0 (by omega)]
        exact h.2.2.2.2.2.1 e h3 h4
      · rw [hu 0 e 8 (by omega), hu 0 e 9 (by omega), hu 0 e 10 (by omega), hc 18 0 e (by omega) (by omega), hc 19 0 e (by omega) (by omega), hc 20 0 e (by omega) (by omega)]
        exact h.2.2.2.2.2.2 e he
    · rcases h1.2.1 j with h3 | ⟨h3, e, h4, h5, h6⟩
      · exact .inl h3
      · refine .inr ⟨h3, e, h4, ?_, h6⟩
        rw [← h5]
        exact fit_cM (fun e j h => hu 0 e j (by omega)) (fun i j => hu 1 i j (by omega)) e j
    · rw [hc 29 0 i (by omega) (by omega)]
      rw [hc 17 0 i (by omega) (by omega)] at ht
      exact h1.2.2 i hi ht
theorem mkIN {C M : Mem} {mn en : Nat} (hR : RS C M mn en) (hD : DI C) (hC : CR C) (hM : ∀ i, i < 12 → Rg (M 10 0 i) 4) (ht : lf C 0 < 7) (h2 : ∀ k, 2 ≤ k → k < 5 → M 2 0 k = C 2 0 k) (h1 : ∀ i k, M 1 i k = C 1 i k) (h0 : ∀ e k, e < 5 → k < 11 → M 0 e k = C 0 e k) : IN M mn en := by
  have hl : lf M 0 = lf C 0 := lf_cg (fun i _ => by rw [h1]) 0
  have he6 := hR.1.2.2.2.2.2
  have hm13 := hR.1.2.2.2.2.1
  refine ⟨?_, fun i hi => ?_, fun e he => ?_⟩
  · rw [hl]
    refine ⟨⟨?_, hR.1.2.1, ?_, hR.1.2.2.2.1, ?_, ?_⟩, hm13, he6, ht⟩
    · rw [h2 2 (by omega) (by omega)]; exact hR.1.1
    · rw [h2 4 (by omega) (by omega)]; exact hR.1.2.2.1
    · rw [hR.2.1.1]; exact hR.2.1.2
    · rw [h2 3 (by omega) (by omega)]; exact hR.2.1.2
  · have hd := hD.2.2.2 i hi
    unfold PI RI
    simp only [h1]
    exact ⟨⟨hd.1, hd.2.1, hd.2.2, hC.1 i hi, hM i hi⟩, fun hz => hR.2.2.1 i hz, fun hz => hR.2.2.2.1 i hz hi⟩
  · unfold PE RE RR
    rw [h0 e 0 he (by omega), h0 e 1 he (by omega), h0 e 2 he (by omega), h0 e 3 he (by omega), h0 e 4 he (by omega), h0 e 5 he (by omega), h0 e 6 he (by omega), h0 e 7 he (by omega), h0 e 8 he (by omega), h0 e 9 he (by omega), h0 e 10 he (by omega)]
    exact ⟨hC.2 e he, hR.2.2.2.2.2.2 e he, fun hz => hR.2.2.2.2.1 e hz, fun hz => hR.2.2.2.2.2.1 e hz he⟩
theorem tu_m {M : Mem} (hD : DI M) (hC : CR M) (c i k : Nat) (h : c = 3 ∨ 10 ≤ c) : tuM M c i k = M c i k := by
  have hs : scr c k = false := by
    rcases h with h | h
    · subst h; rfl
    · exact sc_m h
  rw [tu_n hD hC c i k hs, if_neg (by omega)]
theorem ag_trueUp {M : Mem} {mn en : Nat} {G : Lng} (h : IN M mn en) :
    (oTrueUp M G = thO xNSE M G ∧ ∀ G2, ∃ v M2, nTrueUp M G2 = okO (some (.int v)) M2 G2 ∧ M2 3 0 0 = nI 1 ∧ INV M2) ∨
    (∃ v M1, oTrueUp M G = okO (some (.int v)) M1 (gs G (2, 0) (G (2, 0) + v.toInt64)) ∧ DM M1 ∧ ∀ G2, ∃ M2, nTrueUp M1 G2 = okO (some (.int v)) M2 (gs G2 (3, 0) (G2 (3, 0) + v.toInt64)) ∧ M2 3 0 0 = nI 0 ∧ INV M2) := by
  cases hc : ckF M 12 0
  · exact .inl ⟨by unfold oTrueUp; rw [hc]; rfl, fun G2 => ⟨nI 0, ms M 3 0 0 (nI 1), by unfold nTrueUp; rw [npA_n h.DI h.RS, hc]; rfl, ms_s, h.iv (Nsc.rf.mm (Mm_ms Mm.rf rfl))⟩⟩
  · have hR0 : RS M (tuM M) mn en := h.RS.cm (tu_m h.DI h.CR)
    have hp := puM_n h.DI h.CR hR0 (bP_k hc)
    have he6 := h.RS.1.2.2.2.2.2
    have ⟨h1, h2⟩ := tuH_n h.DI h.CR hp.1 en (Nat.le_refl _)
    have hN : tuN (tuM M) = itn tuH en (puM (tuM M)) := by
      unfold tuN
      rw [hR0.en]
    have hv : tuN (tuM M) 3 0 4 = bst (-1) (bP M) := by
      rw [hN, h2 3 0 4 (by decide) (by decide), hp.2.2]
    refine .inr ⟨bst (-1) (bP M), tuM M, ?_, DM_o h.DM (fun c i k hc => tu_m h.DI h.CR c i k (by omega)), fun G2 => ⟨tuN (tuM M), ?_, ?_, mn, en, ?_⟩⟩
    · unfold oTrueUp
      rw [hc, if_pos rfl, (fp_n h.DI h.CR).1, bst_2 (bP_k hc)]
    · unfold nTrueUp
      rw [npA_n h.DI hR0, hc, if_pos rfl, hv]
    · rw [hN, h2 3 0 0 (by decide) (by decide), pu_0]
    · have hd := h.1
      unfold HD at hd
      have hpu : ∀ c i k, scm c k = false → puM (tuM M) c i k = tuM M c i k := fun c i k hs => Mm_pu Mm.rf c i k hs
      rw [hN]
      refine mkIN (C := cU M (ms' M (bsg (bP M))) en) h1.1 (cU_D h.DI) (cU_C h.CR) (fun i hi => ?_) ?_ (fun k hk hk5 => ?_) (fun i k => ?_) (fun e k he hk => ?_)
      · rw [h2 10 0 i (by decide) (by decide), hpu 10 0 i rfl, tu_m h.DI h.CR 10 0 i (by omega)]
        exact (h.2.1 i hi).1.2.2.2.2
      · rw [lf_cg (M := M) (fun i _ => by rw [cU_1])]
        exact hd.2.2.2
      · rw [h2 2 0 k (by decide) (by decide), hpu 2 0 k (by simp [scm]), tu_n h.DI h.CR 2 0 k (by simp [scr]; omega), if_neg (by omega), cU_o (by omega)]
      · rw [h2 1 i k (by decide) (by decide), hpu 1 i k (by simp [scm]), tu_n h.DI h.CR 1 i k (by simp [scr]), if_neg (by omega), cU_o (by omega)]
      · rw [h2 0 e k (by decide) (by decide), hpu 0 e k (by simp [scm]), tu_n h.DI h.CR 0 e k (by simp [scr]; omega)]
        by_cases h4 : k = 4
        · rw [if_pos ⟨rfl, he, h4⟩, h4]
          by_cases hen : e < en
          · rw [cU_p hen]
          · rw [cU_o (by omega), hp.1.ms0 (by omega)]
            exact Int32.add_zero _
        · rw [if_neg (by omega), cU_o (by omega)]
theorem bT_v (M : Mem) : ∃ a, a < 13 ∧ bst (-1) (bT M) = nI a := by
  have h := bT_k M
  rcases pr_res (S := sT M 12) (E := 5) (T := 12) 12 0 g0 none (by omega) with h1 | ⟨g2, _, h2⟩
  · unfold bT at h
    rw [h1] at h
    cases h
  · have h3 : bT M = some (ct g2, g2) := h2
    exact ⟨ct g2, Nat.lt_succ_of_le (ct_b g2), by rw [h3]; rfl⟩
theorem ag_cov {M : Mem} {mn en : Nat} {G : Lng} (h : IN M mn en) :
    (oCoverage M G = thO xNSE M G ∧ ∀ G2, nCoverage M G2 = okO (some (.float 0)) (tM M true) G2) ∨
    (∃ (a : Fin 13) (b : Fin 7), b.val ≠ 0 ∧ oCoverage M G = okO (some (.float (FP.fdiv (FP.i2f (nI a.val)) (FP.i2f (nI b.val))))) (fcM M) G ∧ ∀ G2, nCoverage (fcM M) G2 = okO (some (.float (FP.fdiv (FP.i2f (nI a.val)) (FP.i2f (nI b.val))))) (coM (tM (fcM M) false)) G2) := by
  have hd := h.1
  unfold HD at hd
  by_cases h0 : M 2 0 3 = 0
  · refine .inl ⟨by unfold oCoverage; rw [if_pos h0], fun G2 => ?_⟩
    have h1 : M 3 0 2 = 0 := by rw [h.RS.2.1.1]; exact h0
    unfold nCoverage
    rw [if_pos h1]
  · have ⟨a, ha, hv⟩ := bT_v M
    have hs : Sm M (fcM M) := Sm_fc Sm.rf
    have hR0 : RS M (fcM M) mn en := h.RS.cg hs
    have hR1 : RS M (tM (fcM M) false) mn en := hR0.mm (Mm_t Mm.rf)
    have hR2 : RS M (coM (tM (fcM M) false)) mn en := hR1.mm (Mm_co Mm.rf)
    have ⟨b, hb, hbv⟩ : ∃ b : Fin 7, b.val ≠ 0 ∧ M 2 0 3 = nI b.val := ⟨⟨lf M 0, hd.2.2.2⟩, fun z => h0 (by rw [hd.1.2.2.2.2.2, show lf M 0 = 0 from z]; rfl), hd.1.2.2.2.2.2⟩
    refine .inr ⟨⟨a, ha⟩, b, hb, ?_, fun G2 => ?_⟩
    · unfold oCoverage
      rw [if_neg h0, hs 2 0 3 rfl, (fc_n h.DI h.CR).1, hv, hbv]
    · have h1 : ¬ fcM M 3 0 2 = 0 := by rw [hR0.2.1.1]; exact h0
      unfold nCoverage
      rw [if_neg h1, (coM_n h.DI h.CR hR1).2.2, hR2.2.1.1, hv, hbv]
end Tu
