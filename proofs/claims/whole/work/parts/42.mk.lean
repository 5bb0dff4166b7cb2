/-! CLASS AND MODEL AGREE: what is new; true-ups; coverage -/
section Mk
theorem fitI_n (p v e d u c q : Int32) : mfI p v e d u c q = fitI p v e d u c q := by
  unfold mfI fitI rel hol pol
  simp only [Bool.and_assoc]
theorem po_n (po : Int32) : btw po (-1) (nI 2) = (pol po || decide (po = -1)) := by
  have hk : ∀ a b : Int32, (a < b) = (a.toInt < b.toInt) := fun a b => propext Int32.lt_iff_toInt_lt
  have h1 : (po = -1) = (po.toInt = -1) := by
    have := @Int32.toInt_inj po (-1)
    exact propext this.symm
  have c1 : (-1 : Int32).toInt = -1 := by decide
  have c2 : (nI 2).toInt = 2 := by decide
  have c0 : (nI 0).toInt = 0 := by decide
  unfold pol btw
  simp only [hk, h1, c1, c2, c0]
  rw [Bool.eq_iff_iff]
  simp only [Bool.or_eq_true, Bool.and_eq_true, Bool.not_eq_true', decide_eq_false_iff_not, decide_eq_true_eq]
  omega
theorem fitE_n (pr v ed m u po : Int32) : mfE pr v ed m u po = fitE pr v ed m u po := by
  unfold mfE fitE rel
  rw [po_n]
  simp only [Bool.and_assoc]
theorem t_6 : ∀ a : Fin 7, (nI 6 ≤ nI a.val) ↔ (nI a.val = nI 6) := by decide
theorem n_12 : ∀ a : Fin 13, (¬ nI a.val < nI 12) ↔ (nI a.val = nI 12) := by decide
theorem n_5 : ∀ a : Fin 6, (¬ nI a.val < nI 5) ↔ (nI a.val = nI 5) := by decide
theorem ag_install {M : Mem} {mn en : Nat} {G : Lng} {p v e d u c q : Int32} (h : IN M mn en) : AG [xIAE, xISE] (oInstall M G p v e d u c q) (fun M1 G2 => nInstall M1 G2 p v e d u c q) G := by
  have hd := h.1
  unfold HD at hd
  cases hq : fitI p v e d u c q
  · exact AG.th xIAE 0 M (ms M 3 0 0 (nI 1)) rfl (by unfold oInstall; rw [hq]; rfl) (fun G2 => by unfold nInstall; rw [fitI_n, hq]; rfl) ms_s h.DM (h.iv (Nsc.rf.mm (Mm_ms Mm.rf rfl)))
  · have hw : (nI 6 ≤ M 2 0 3 ∨ ¬ M 2 0 2 < nI 12) = (M 3 0 2 = nI 6 ∨ M 3 0 1 = nI 12) := by
      rw [hd.1.2.2.2.2.2, hd.1.2.2.2.2.1, hd.1.1, hd.1.2.1]
      exact propext (or_congr (t_6 ⟨_, hd.2.2.2⟩) (n_12 ⟨_, hd.2.1⟩))
    by_cases hf : M 3 0 2 = nI 6 ∨ M 3 0 1 = nI 12
    · exact AG.th xISE 1 M (ms M 3 0 0 (nI 2)) rfl (by unfold oInstall; rw [hq, if_pos rfl, if_pos (by rw [hw]; exact hf)]) (fun G2 => by unfold nInstall; rw [fitI_n, hq, if_pos rfl, if_pos hf]; rfl) ms_s h.DM (h.iv (Nsc.rf.mm (Mm_ms Mm.rf rfl)))
    · have hmn : mn < 12 := by
        by_cases hz : mn < 12
        · exact hz
        · exact absurd (.inr (by rw [hd.1.2.1, show mn = 12 by omega])) hf
      have ht6 : lf M 0 < 6 := by
        by_cases hz : lf M 0 < 6
        · exact hz
        · exact absurd (.inl (by rw [hd.1.2.2.2.2.1, show lf M 0 = 6 by omega])) hf
      have hfi := hq
      unfold fitI rel hol pol at hfi
      simp only [Bool.and_eq_true] at hfi
      have r1 : Rg p 4 := btw_Rg hfi.1.1.1.1.1 (by omega)
      have r2 : Rg d 10 := btw_Rg hfi.1.1.1.2 (by omega)
      have r3 : Rg u 10 := btw_Rg hfi.1.1.2 (by omega)
      have r4 : Rg c 17 := btw_R1 hfi.1.2 (by omega)
      have hix : ix (M 2 0 2) = mn := by rw [hd.1.1]; exact ixn (by omega)
      generalize hM1 : ms (ms (fillI M mn p v e d u c q) 2 0 2 (M 2 0 2 + nI 1)) 2 0 3 (M 2 0 3 + nI 1) = M1
      have hc1 : ∀ c i k, ¬ (c = 1 ∧ i = mn) → ¬ (c = 2 ∧ k = 2) → ¬ (c = 2 ∧ k = 3) → M1 c i k = M c i k := fun c i k h1 h2 h3 => by
        rw [← hM1]; unfold fillI
        rw [ms_o (by omega), ms_o (by omega), ms_o (by omega), ms_o (by omega), ms_o (by omega), ms_o (by omega), ms_o (by omega), ms_o (by omega), ms_o (by omega), ms_o (by omega)]
      generalize hM2 : ms (ms (fillM (ms M1 3 0 0 (nI 0)) mn p v e d u c q) 3 0 2 (M1 3 0 2 + nI 1)) 3 0 1 (M1 3 0 1 + nI 1) = M2
      have hc2 : ∀ c i k, ¬ (c = 3) → ¬ (10 ≤ c ∧ c < 17 ∧ k = mn) → M2 c i k = M1 c i k := fun c i k h1 h2 => by
        rw [← hM2]; unfold fillM
        rw [ms_o (by omega), ms_o (by omega), ms_o (by omega), ms_o (by omega), ms_o (by omega), ms_o (by omega), ms_o (by omega), ms_o (by omega), ms_o (by omega), ms_o (by omega)]
      have e1 : M1 3 0 1 = nI mn := by rw [hc1 3 0 1 (by omega) (by omega) (by omega), hd.1.2.1]
      have e2 : M1 3 0 2 = nI (lf M 0) := by rw [hc1 3 0 2 (by omega) (by omega) (by omega), hd.1.2.2.2.2.1]
      have e10 : M2 1 mn 0 = nI 1 := by rw [hc2 1 mn 0 (by omega) (by omega), ← hM1]; unfold fillI; simp [ms]
      have n1 : ¬ nI 1 = 0 := by decide
      refine AG.ok M1 M2 (v := nI mn) (by unfold oInstall; rw [hq, if_pos rfl, if_neg (by rw [hw]; exact hf), hix, hM1, hd.1.1]) (fun G2 => ?_) ?_ (DM_o h.DM (fun c i k hc => hc1 c i k (by omega) (by omega) (by omega))) ?_
      · unfold nInstall
        rw [fitI_n, hq, if_pos rfl, if_neg (by rw [hc1 3 0 1 (by omega) (by omega) (by omega), hc1 3 0 2 (by omega) (by omega) (by omega)]; exact hf), show ix (M1 3 0 1) = mn by rw [e1]; exact ixn (by omega), hM2, e1]
      · rw [← hM2]; unfold fillM; simp [ms]
      · have hl := lf_ch (M := M) (M2 := M2) (x := mn) hmn (fun i hi => by rw [hc2 1 i 0 (by omega) (by omega), hc1 1 i 0 (by omega) (by omega) (by omega)])
        rw [if_pos ((h.2.1 mn hmn).2.2 (Nat.le_refl _)).1, if_neg (by rw [e10]; exact n1)] at hl
        have hl2 : lf M2 0 = lf M 0 + 1 := by omega
        refine ⟨mn + 1, en, ?_, fun i hi => ?_, fun e he => PE_cg (fun k hk => by rw [hc2 0 e k (by omega) (by omega), hc1 0 e k (by omega) (by omega) (by omega)]) (fun c h1 h2 => by rw [hc2 c 0 e (by omega) (by omega), hc1 c 0 e (by omega) (by omega) (by omega)]) (h.2.2 e he)⟩
        · unfold HD
          refine ⟨⟨?_, ?_, ?_, ?_, ?_, ?_⟩, by omega, hd.2.2.1, by omega⟩
          · rw [hc2 2 0 2 (by omega) (by omega), ← hM1, ms_o (by omega), ms_s, hd.1.1, nI_add]
          · rw [← hM2, ms_s, e1, nI_add]
          · rw [hc2 2 0 4 (by omega) (by omega), hc1 2 0 4 (by omega) (by omega) (by omega)]; exact hd.1.2.2.1
          · rw [← hM2]; unfold fillM; rw [ms_o (by omega), ms_o (by omega), ms_o (by omega), ms_o (by omega), ms_o (by omega), ms_o (by omega), ms_o (by omega), ms_o (by omega), ms_o (by omega), ms_o (by omega), hc1 3 0 3 (by omega) (by omega) (by omega)]; exact hd.1.2.2.2.1
          · rw [hl2, ← hM2, ms_o (by omega), ms_s, e2, nI_add]
          · rw [hc2 2 0 3 (by omega) (by omega), ← hM1, ms_s, hd.1.2.2.2.2.2, nI_add, hl2]
        · by_cases hxi : i = mn
          · rw [hxi]
            have f1 : M2 17 0 mn = 0 := by rw [hc2 17 0 mn (by omega) (by omega), hc1 17 0 mn (by omega) (by omega) (by omega)]; exact ((h.2.1 mn hmn).2.2 (Nat.le_refl _)).2
            have f2 : ∀ k x, M1 1 mn k = x → M2 1 mn k = x := fun k x hx => by rw [hc2 1 mn k (by omega) (by omega)]; exact hx
            unfold PI RI
            rw [e10, f1, f2 1 p (by rw [← hM1]; unfold fillI; simp [ms]), f2 2 v (by rw [← hM1]; unfold fillI; simp [ms]), f2 3 e (by rw [← hM1]; unfold fillI; simp [ms]), f2 4 d (by rw [← hM1]; unfold fillI; simp [ms]), f2 5 u (by rw [← hM1]; unfold fillI; simp [ms]), f2 6 c (by rw [← hM1]; unfold fillI; simp [ms]), f2 7 q (by rw [← hM1]; unfold fillI; simp [ms])]
            rw [← hM2]
            unfold fillM
            simp [ms]
            grind
          · have hP := PI_cg (M1 := M2) (fun k _ => by rw [hc2 1 i k (by omega) (by omega), hc1 1 i k (by omega) (by omega) (by omega)]) (fun c h1 h2 => by rw [hc2 c 0 i (by omega) (by omega), hc1 c 0 i (by omega) (by omega) (by omega)]) (h.2.1 i hi)
            exact ⟨hP.1, fun hz => hP.2.1 (by omega), fun hz => hP.2.2 (by omega)⟩
theorem ag_entitle {M : Mem} {mn en : Nat} {G : Lng} {pr v ed m u po : Int32} (h : IN M mn en) : AG [xIAE, xISE] (oEntitle M G pr v ed m u po) (fun M1 G2 => nEntitle M1 G2 pr v ed m u po) G := by
  have hd := h.1
  unfold HD at hd
  cases hq : fitE pr v ed m u po
  · exact AG.th xIAE 0 M (ms M 3 0 0 (nI 1)) rfl (by unfold oEntitle; rw [hq]; rfl) (fun G2 => by unfold nEntitle; rw [fitE_n, hq]; rfl) ms_s h.DM (h.iv (Nsc.rf.mm (Mm_ms Mm.rf rfl)))
  · have hw : (¬ M 2 0 4 < nI 5) = (M 3 0 3 = nI 5) := by
      rw [hd.1.2.2.1, hd.1.2.2.2.1]
      exact propext (n_5 ⟨_, hd.2.2.1⟩)
    by_cases hf : M 3 0 3 = nI 5
    · exact AG.th xISE 1 M (ms M 3 0 0 (nI 2)) rfl (by unfold oEntitle; rw [hq, if_pos rfl, if_pos (by rw [hw]; exact hf)]) (fun G2 => by unfold nEntitle; rw [fitE_n, hq, if_pos rfl, if_pos hf]; rfl) ms_s h.DM (h.iv (Nsc.rf.mm (Mm_ms Mm.rf rfl)))
    · have hen : en < 5 := by
        by_cases hz : en < 5
        · exact hz
        · exact absurd (by rw [hd.1.2.2.2.1, show en = 5 by omega]) hf
      have hfi := hq
      unfold fitE rel met at hfi
      simp only [Bool.and_eq_true, Bool.or_eq_true, decide_eq_true_eq] at hfi
      have r1 : Rg pr 16 := btw_R1 hfi.1.1.1.1 (by omega)
      have r2 : Rg u 100 := btw_Rg hfi.1.2 (by omega)
      have r3 : Rg u 1000 := ⟨r2.1, by have := r2.2; omega⟩
      have r4 : Rg (nI 1) 17 := Rg_n (by omega) (by omega)
      have r5 : Rg (nI 10) 100 := Rg_n (by omega) (by omega)
      have hix : ix (M 2 0 4) = en := by rw [hd.1.2.2.1]; exact ixn (by omega)
      generalize hM1 : ms (fillE M en pr v ed m u po) 2 0 4 (M 2 0 4 + nI 1) = M1
      have hc1 : ∀ c i k, ¬ (c = 0 ∧ i = en ∧ k < 8) → ¬ (c = 2 ∧ k = 4) → M1 c i k = M c i k := fun c i k h1 h2 => by
        rw [← hM1]; unfold fillE
        rw [ms_o (by omega), ms_o (by omega), ms_o (by omega), ms_o (by omega), ms_o (by omega), ms_o (by omega), ms_o (by omega), ms_o (by omega), ms_o (by omega)]
      generalize hM2 : ms (fillN (tM M1 false) en pr v ed m u po) 3 0 3 (M1 3 0 3 + nI 1) = M2
      have hc2 : ∀ c i k, ¬ (c = 3 ∧ (k = 0 ∨ k = 3)) → ¬ (21 ≤ c ∧ c < 29 ∧ k = en) → M2 c i k = M1 c i k := fun c i k h1 h2 => by
        rw [← hM2]; unfold fillN tM
        rw [ms_o (by omega), ms_o (by omega), ms_o (by omega), ms_o (by omega), ms_o (by omega), ms_o (by omega), ms_o (by omega), ms_o (by omega), ms_o (by omega), ms_o (by omega)]
      have e1 : M1 3 0 3 = nI en := by rw [hc1 3 0 3 (by omega) (by omega), hd.1.2.2.2.1]
      refine AG.ok M1 M2 (v := nI en) (by unfold oEntitle; rw [hq, if_pos rfl, if_neg (by rw [hw]; exact hf), hix, hM1, hd.1.2.2.1]) (fun G2 => ?_) ?_ (DM_o h.DM (fun c i k hc => hc1 c i k (by omega) (by omega))) ?_
      · unfold nEntitle
        rw [fitE_n, hq, if_pos rfl, if_neg (by rw [hc1 3 0 3 (by omega) (by omega)]; exact hf), show ix (M1 3 0 3) = en by rw [e1]; exact ixn (by omega), hM2, e1]
      · rw [← hM2]; unfold fillN tM; simp [ms]
      · have hl2 : lf M2 0 = lf M 0 := lf_cg (fun i hi => by rw [hc2 1 i 0 (by omega) (by omega), hc1 1 i 0 (by omega) (by omega)]) 0
        refine ⟨mn, en + 1, ?_, fun i hi => PI_cg (fun k hk => by rw [hc2 1 i k (by omega) (by omega), hc1 1 i k (by omega) (by omega)]) (fun c h1 h2 => by rw [hc2 c 0 i (by omega) (by omega), hc1 c 0 i (by omega) (by omega)]) (h.2.1 i hi), fun e he => ?_⟩
        · rw [hl2]
          unfold HD
          refine ⟨⟨?_, ?_, ?_, ?_, ?_, ?_⟩, hd.2.1, by omega, hd.2.2.2⟩
          · rw [hc2 2 0 2 (by omega) (by omega), hc1 2 0 2 (by omega) (by omega)]; exact hd.1.1
          · rw [hc2 3 0 1 (by omega) (by omega), hc1 3 0 1 (by omega) (by omega)]; exact hd.1.2.1
          · rw [hc2 2 0 4 (by omega) (by omega), ← hM1, ms_s, hd.1.2.2.1, nI_add]
          · rw [← hM2, ms_s, e1, nI_add]
          · rw [hc2 3 0 2 (by omega) (by omega), hc1 3 0 2 (by omega) (by omega)]; exact hd.1.2.2.2.2.1
          · rw [hc2 2 0 3 (by omega) (by omega), hc1 2 0 3 (by omega) (by omega)]; exact hd.1.2.2.2.2.2
        · by_cases hxi : e = en
          · rw [hxi]
            have hp := (h.2.2 en (by omega)).2.1
            have f2 : ∀ k x, M1 0 en k = x → M2 0 en k = x := fun k x hx => by rw [hc2 0 en k (by omega) (by omega)]; exact hx
            have f3 : ∀ k, 8 ≤ k → M2 0 en k = M 0 en k := fun k hk => by rw [hc2 0 en k (by omega) (by omega), hc1 0 en k (by omega) (by omega)]
            have f4 : ∀ c, 18 ≤ c → c < 21 → M2 c 0 en = M c 0 en := fun c h1 h2 => by rw [hc2 c 0 en (by omega) (by omega), hc1 c 0 en (by omega) (by omega)]
            unfold PE RE RR at *
            rw [f2 0 pr (by rw [← hM1]; unfold fillE; simp [ms]), f2 1 v (by rw [← hM1]; unfold fillE; simp [ms]), f2 2 ed (by rw [← hM1]; unfold fillE; simp [ms]), f2 3 m (by rw [← hM1]; unfold fillE; simp [ms]), f2 4 u (by rw [← hM1]; unfold fillE; simp [ms]), f2 5 po (by rw [← hM1]; unfold fillE; simp [ms]), f2 6 (nI 1) (by rw [← hM1]; unfold fillE; simp [ms]), f2 7 (nI 10) (by rw [← hM1]; unfold fillE; simp [ms]), f3 8 (by omega), f3 9 (by omega), f3 10 (by omega), f4 18 (by omega) (by omega), f4 19 (by omega) (by omega), f4 20 (by omega) (by omega)]
            rw [← hM2]
            unfold fillN tM
            simp [ms]
            grind
          · have hP := PE_cg (M1 := M2) (fun k hk => by rw [hc2 0 e k (by omega) (by omega), hc1 0 e k (by omega) (by omega)]) (fun c h1 h2 => by rw [hc2 c 0 e (by omega) (by omega), hc1 c 0 e (by omega) (by omega)]) (h.2.2 e he)
            exact ⟨hP.1, hP.2.1, fun hz => hP.2.2.1 (by omega), fun hz => hP.2.2.2 (by omega)⟩
end Mk
