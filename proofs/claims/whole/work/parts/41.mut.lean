/-! CLASS AND MODEL AGREE: the changes -/
section Mut
theorem IN_I {M M2 : Mem} {mn en x : Nat} (h : IN M mn en) (hc : ∀ c i k, ¬ (c = 3 ∧ k = 0) → ¬ (c = 1 ∧ i = x) → ¬ (10 ≤ c ∧ c < 18 ∧ k = x) → M2 c i k = M c i k) (h0 : (M2 1 x 0 = 0) = (M 1 x 0 = 0)) (hp : PI M2 mn x) : INV M2 := by
  refine ⟨mn, en, ?_, fun i hi => ?_, fun e he => PE_cg (fun k hk => hc 0 e k (by omega) (by omega) (by omega)) (fun c h1 h2 => hc c 0 e (by omega) (by omega) (by omega)) (h.2.2 e he)⟩
  · rw [lf_cg (M := M) (fun i _ => by
      by_cases hx : i = x
      · rw [hx, h0]
      · rw [hc 1 i 0 (by omega) (by omega) (by omega)])]
    have h1 := h.1
    unfold HD at h1 ⊢
    rw [hc 2 0 2 (by omega) (by omega) (by omega), hc 3 0 1 (by omega) (by omega) (by omega), hc 2 0 4 (by omega) (by omega) (by omega), hc 3 0 3 (by omega) (by omega) (by omega), hc 3 0 2 (by omega) (by omega) (by omega), hc 2 0 3 (by omega) (by omega) (by omega)]
    exact h1
  · by_cases hx : i = x
    · rw [hx]; exact hp
    · exact PI_cg (fun k _ => hc 1 i k (by omega) (by omega) (by omega)) (fun c h1 h2 => hc c 0 i (by omega) (by omega) (by omega)) (h.2.1 i hi)
theorem IN_E {M M2 : Mem} {mn en x : Nat} (h : IN M mn en) (hc : ∀ c i k, ¬ (c = 3 ∧ k = 0) → ¬ (c = 0 ∧ i = x) → ¬ (18 ≤ c ∧ c < 29 ∧ k = x) → M2 c i k = M c i k) (hp : PE M2 en x) : INV M2 := by
  refine ⟨mn, en, ?_, fun i hi => PI_cg (fun k _ => hc 1 i k (by omega) (by omega) (by omega)) (fun c h1 h2 => hc c 0 i (by omega) (by omega) (by omega)) (h.2.1 i hi), fun e he => ?_⟩
  · rw [lf_cg (M := M) (fun i _ => by rw [hc 1 i 0 (by omega) (by omega) (by omega)])]
    have h1 := h.1
    unfold HD at h1 ⊢
    rw [hc 2 0 2 (by omega) (by omega) (by omega), hc 3 0 1 (by omega) (by omega) (by omega), hc 2 0 4 (by omega) (by omega) (by omega), hc 3 0 3 (by omega) (by omega) (by omega), hc 3 0 2 (by omega) (by omega) (by omega), hc 2 0 3 (by omega) (by omega) (by omega)]
    exact h1
  · by_cases hx : e = x
    · rw [hx]; exact hp
    · exact PE_cg (fun k hk => hc 0 e k (by omega) (by omega) (by omega)) (fun c h1 h2 => hc c 0 e (by omega) (by omega) (by omega)) (h.2.2 e he)
theorem DM_o {M M1 : Mem} (h : DM M) (hc : ∀ c i k, c = 3 ∨ c = 10 → M1 c i k = M c i k) : DM M1 := by
  unfold DM
  rw [hc 3 0 1 (by omega), hc 3 0 2 (by omega), hc 3 0 3 (by omega)]
  refine ⟨h.1, h.2.1, h.2.2.1, fun i hi => ?_⟩
  rw [hc 10 0 i (by omega)]
  exact h.2.2.2 i hi
theorem RS.cm {C M M1 : Mem} {mn en : Nat} (h : RS C M mn en) (hs : ∀ c i k, c = 3 ∨ 10 ≤ c → M1 c i k = M c i k) : RS C M1 mn en := by
  unfold RS RI RE RR at *
  rw [hs 3 0 1 (by omega), hs 3 0 3 (by omega), hs 3 0 2 (by omega)]
  refine ⟨h.1, h.2.1, fun i hi => ?_, fun i h1 h2 => ?_, fun e he => ?_, h.2.2.2.2.2.1, fun e he => ?_⟩
  · rw [hs 17 0 i (by omega), hs 10 0 i (by omega), hs 11 0 i (by omega), hs 12 0 i (by omega), hs 13 0 i (by omega), hs 14 0 i (by omega), hs 15 0 i (by omega), hs 16 0 i (by omega)]
    exact h.2.2.1 i hi
  · rw [hs 17 0 i (by omega)]; exact h.2.2.2.1 i h1 h2
  · rw [hs 21 0 e (by omega), hs 22 0 e (by omega), hs 23 0 e (by omega), hs 28 0 e (by omega), hs 24 0 e (by omega), hs 25 0 e (by omega), hs 26 0 e (by omega), hs 27 0 e (by omega)]
    exact h.2.2.2.2.1 e he
  · rw [hs 18 0 e (by omega), hs 19 0 e (by omega), hs 20 0 e (by omega)]
    exact h.2.2.2.2.2.2 e he
theorem ag_moveTo {M : Mem} {mn en : Nat} {G : Lng} {x d u : Int32} (h : IN M mn en) : AG [xIOB, xIAE] (oMoveTo M G x d u) (fun M1 G2 => nMoveTo M1 G2 x d u) G := by
  cases ht : thr M x
  · exact AG.th xIOB 0 M (ms M 3 0 0 (nI 1)) rfl (by unfold oMoveTo; rw [ht]; rfl) (fun G2 => by unfold nMoveTo; rw [thr_n h.RS, ht]; rfl) ms_s h.DM (h.iv (Nsc.rf.mm (Mm_ms Mm.rf rfl)))
  · have hx := thr_ix h.RS ht
    have hm := h.RS.1.2.2.2.2.1
    have hx2 := hx.1.2
    cases hq : (hol d && hol u)
    · exact AG.th xIAE 1 M (ms (tM M false) 3 0 0 (nI 2)) rfl (by unfold oMoveTo; rw [ht, hq]; rfl) (fun G2 => by
        unfold nMoveTo; rw [thr_n h.RS, ht, if_neg (by decide), if_neg (by unfold hol at hq; rw [hq]; decide)]) ms_s h.DM (h.iv (Nsc.rf.mm (Mm_ms (Mm_t Mm.rf) rfl)))
    · have hR := h.RS.2.2.1 (ix x) hx2
      have hq2 := hq
      rw [Bool.and_eq_true] at hq2
      have r1 : Rg d 10 := btw_Rg hq2.1 (by omega)
      have r2 : Rg u 10 := btw_Rg hq2.2 (by omega)
      refine AG.ok (ms (ms M 1 (ix x) 4 d) 1 (ix x) 5 u) (ms (ms (tM (ms (ms M 1 (ix x) 4 d) 1 (ix x) 5 u) false) 13 0 (ix x) d) 14 0 (ix x) u) (v := M 1 (ix x) 4) (by unfold oMoveTo; rw [ht, hq]; rfl) (fun G2 => ?_) ?_ (DM_o h.DM (fun c i k hc => by rw [ms_o (by omega), ms_o (by omega)])) ?_
      · have hR1 : RS M (ms (ms M 1 (ix x) 4 d) 1 (ix x) 5 u) mn en := h.RS.cm (fun c i k hc => by rw [ms_o (by omega), ms_o (by omega)])
        unfold nMoveTo
        rw [thr_n hR1, ht, if_neg (by decide), if_pos (by unfold hol at hq; exact hq), ms_o (by omega), ms_o (by omega), hR.2.2.2.2.1]
      · rw [ms_o (by omega), ms_o (by omega), tM_0]
      · refine IN_I (x := ix x) h (fun c i k h1 h2 h3 => ?_) ?_ ?_
        · unfold tM
          rw [ms_o (by omega), ms_o (by omega), ms_o (by omega), ms_o (by omega), ms_o (by omega)]
        · simp [ms, tM]
        · have hp := h.2.1 (ix x) (by omega)
          unfold PI RI at hp ⊢
          simp [ms, tM]
          have hx3 := hp.2.1 hx2
          grind
theorem btw_R1 {x : Int32} {n : Nat} (h : btw x (nI 1) (nI n) = true) (hn : n < 2 ^ 31 - 1) : Rg x (n + 1) := by
  refine btw_Rg ?_ hn
  unfold btw at h ⊢
  rw [Bool.and_eq_true] at h ⊢
  refine ⟨?_, h.2⟩
  have h1 : ¬ x < nI 1 := by simpa using h.1
  have h2 : ¬ x < nI 0 := fun z => h1 (Int32.lt_trans z (by decide))
  simp [h2]
theorem ag_setVersion {M : Mem} {mn en : Nat} {G : Lng} {x d u : Int32} (h : IN M mn en) : AG [xIOB, xIAE] (oSetVersion M G x d u) (fun M1 G2 => nSetVersion M1 G2 x d u) G := by
  cases ht : thr M x
  · exact AG.th xIOB 0 M (ms M 3 0 0 (nI 1)) rfl (by unfold oSetVersion; rw [ht]; rfl) (fun G2 => by unfold nSetVersion; rw [thr_n h.RS, ht]; rfl) ms_s h.DM (h.iv (Nsc.rf.mm (Mm_ms Mm.rf rfl)))
  · have hx := thr_ix h.RS ht
    have hm := h.RS.1.2.2.2.2.1
    have hx2 := hx.1.2
    cases hq : rel d u
    · exact AG.th xIAE 1 M (ms (tM M false) 3 0 0 (nI 2)) rfl (by unfold oSetVersion; rw [ht, hq]; rfl) (fun G2 => by
        unfold nSetVersion; rw [thr_n h.RS, ht, if_neg (by decide), if_neg (by unfold rel at hq; rw [hq]; decide)]) ms_s h.DM (h.iv (Nsc.rf.mm (Mm_ms (Mm_t Mm.rf) rfl)))
    · have hR := h.RS.2.2.1 (ix x) hx2
      refine AG.ok (ms (ms M 1 (ix x) 2 d) 1 (ix x) 3 u) (ms (ms (tM (ms (ms M 1 (ix x) 2 d) 1 (ix x) 3 u) false) 11 0 (ix x) d) 12 0 (ix x) u) (v := M 1 (ix x) 2) (by unfold oSetVersion; rw [ht, hq]; rfl) (fun G2 => ?_) ?_ (DM_o h.DM (fun c i k hc => by rw [ms_o (by omega), ms_o (by omega)])) ?_
      · have hR1 : RS M (ms (ms M 1 (ix x) 2 d) 1 (ix x) 3 u) mn en := h.RS.cm (fun c i k hc => by rw [ms_o (by omega), ms_o (by omega)])
        unfold nSetVersion
        rw [thr_n hR1, ht, if_neg (by decide), if_pos (by unfold rel at hq; exact hq), ms_o (by omega), ms_o (by omega), hR.2.2.1]
      · rw [ms_o (by omega), ms_o (by omega), tM_0]
      · refine IN_I (x := ix x) h (fun c i k h1 h2 h3 => ?_) ?_ ?_
        · unfold tM
          rw [ms_o (by omega), ms_o (by omega), ms_o (by omega), ms_o (by omega), ms_o (by omega)]
        · simp [ms, tM]
        · have hp := h.2.1 (ix x) (by omega)
          unfold PI RI at hp ⊢
          simp [ms, tM]
          have hx3 := hp.2.1 hx2
          grind
theorem ag_setPool {M : Mem} {mn en : Nat} {G : Lng} {x d : Int32} (h : IN M mn en) : AG [xIOB, xIAE] (oSetPool M G x d) (fun M1 G2 => nSetPool M1 G2 x d) G := by
  cases ht : thr M x
  · exact AG.th xIOB 0 M (ms M 3 0 0 (nI 1)) rfl (by unfold oSetPool; rw [ht]; rfl) (fun G2 => by unfold nSetPool; rw [thr_n h.RS, ht]; rfl) ms_s h.DM (h.iv (Nsc.rf.mm (Mm_ms Mm.rf rfl)))
  · have hx := thr_ix h.RS ht
    have hm := h.RS.1.2.2.2.2.1
    have hx2 := hx.1.2
    cases hq : pol d
    · exact AG.th xIAE 1 M (ms (tM M false) 3 0 0 (nI 2)) rfl (by unfold oSetPool; rw [ht, hq]; rfl) (fun G2 => by
        unfold nSetPool; rw [thr_n h.RS, ht, if_neg (by decide), if_neg (by unfold pol at hq; rw [hq]; decide)]) ms_s h.DM (h.iv (Nsc.rf.mm (Mm_ms (Mm_t Mm.rf) rfl)))
    · have hR := h.RS.2.2.1 (ix x) hx2
      refine AG.ok (ms M 1 (ix x) 7 d) (ms (tM (ms M 1 (ix x) 7 d) false) 16 0 (ix x) d) (v := M 1 (ix x) 7) (by unfold oSetPool; rw [ht, hq]; rfl) (fun G2 => ?_) ?_ (DM_o h.DM (fun c i k hc => by rw [ms_o (by omega)])) ?_
      · have hR1 : RS M (ms M 1 (ix x) 7 d) mn en := h.RS.cm (fun c i k hc => by rw [ms_o (by omega)])
        unfold nSetPool
        rw [thr_n hR1, ht, if_neg (by decide), if_pos (by unfold pol at hq; exact hq), ms_o (by omega), hR.2.2.2.2.2.2.2]
      · rw [ms_o (by omega), tM_0]
      · refine IN_I (x := ix x) h (fun c i k h1 h2 h3 => ?_) ?_ ?_
        · unfold tM
          rw [ms_o (by omega), ms_o (by omega), ms_o (by omega)]
        · simp [ms, tM]
        · have hp := h.2.1 (ix x) (by omega)
          unfold PI RI at hp ⊢
          simp [ms, tM]
          have hx3 := hp.2.1 hx2
          grind
theorem ag_setPrice {M : Mem} {mn en : Nat} {G : Lng} {x d : Int32} (h : IN M mn en) : AG [xIOB, xIAE] (oSetPrice M G x d) (fun M1 G2 => nSetPrice M1 G2 x d) G := by
  cases ht : eth M x
  · exact AG.th xIOB 0 M (ms M 3 0 0 (nI 1)) rfl (by unfold oSetPrice; rw [ht]; rfl) (fun G2 => by unfold nSetPrice; rw [eth_n h.RS, ht]; rfl) ms_s h.DM (h.iv (Nsc.rf.mm (Mm_ms Mm.rf rfl)))
  · have hx := eth_ix h.RS ht
    have he5 : ix x < 5 := by have := h.RS.1.2.2.2.2.2; have := hx.2; omega
    have hx2 := hx.2
    cases hq : btw d (nI 1) (nI 99)
    · exact AG.th xIAE 1 M (ms (tM M false) 3 0 0 (nI 2)) rfl (by unfold oSetPrice; rw [ht, hq]; rfl) (fun G2 => by
        unfold nSetPrice; rw [eth_n h.RS, ht, if_neg (by decide), if_neg (by rw [hq]; decide)]) ms_s h.DM (h.iv (Nsc.rf.mm (Mm_ms (Mm_t Mm.rf) rfl)))
    · have hR := h.RS.2.2.2.2.1 (ix x) hx2
      have r1 : Rg d 100 := btw_R1 hq (by omega)
      have hR1 : RS M (ms M 0 (ix x) 7 d) mn en := h.RS.cm (fun c i k hc => by rw [ms_o (by omega)])
      refine AG.ok (ms M 0 (ix x) 7 d) (ms (tM (ms M 0 (ix x) 7 d) false) 27 0 (ix x) d) (v := M 0 (ix x) 7) (by unfold oSetPrice; rw [ht, hq, if_pos rfl, if_pos rfl]) (fun G2 => ?_) ?_ (DM_o h.DM (fun c i k hc => by rw [ms_o (by omega)])) ?_
      · unfold nSetPrice
        rw [eth_n hR1, ht, if_neg (by decide), if_pos (by exact hq), ms_o (by omega), hR.2.2.2.2.2.2.2.2.2]
      · rw [ms_o (by omega), tM_0]
      · refine IN_E (x := ix x) h (fun c i k h1 h2 h3 => ?_) ?_
        · unfold tM
          rw [ms_o (by omega), ms_o (by omega), ms_o (by omega)]
        · have hp := h.2.2 (ix x) he5
          unfold PE RE RR at hp ⊢
          simp [ms, tM]
          have hx3 := hp.2.2.1 hx2
          grind
theorem ag_setMinimum {M : Mem} {mn en : Nat} {G : Lng} {x d : Int32} (h : IN M mn en) : AG [xIOB, xIAE, xUOE] (oSetMinimum M G x d) (fun M1 G2 => nSetMinimum M1 G2 x d) G := by
  cases ht : eth M x
  · exact AG.th xIOB 0 M (ms M 3 0 0 (nI 1)) rfl (by unfold oSetMinimum; rw [ht]; rfl) (fun G2 => by unfold nSetMinimum; rw [eth_n h.RS, ht]; rfl) ms_s h.DM (h.iv (Nsc.rf.mm (Mm_ms Mm.rf rfl)))
  · have hx := eth_ix h.RS ht
    have he5 : ix x < 5 := by have := h.RS.1.2.2.2.2.2; have := hx.2; omega
    have hx2 := hx.2
    cases hq : btw d (nI 1) (nI 16)
    · exact AG.th xIAE 1 M (ms (tM M false) 3 0 0 (nI 2)) rfl (by unfold oSetMinimum; rw [ht, hq]; rfl) (fun G2 => by
        unfold nSetMinimum; rw [eth_n h.RS, ht, if_neg (by decide), if_neg (by rw [hq]; decide)]) ms_s h.DM (h.iv (Nsc.rf.mm (Mm_ms (Mm_t Mm.rf) rfl)))
    · have hR := h.RS.2.2.2.2.1 (ix x) hx2
      have r1 : Rg d 17 := btw_R1 hq (by omega)
      by_cases h9 : M 0 (ix x) 3 = nI 99
      · have hR1 : RS M (ms M 0 (ix x) 6 d) mn en := h.RS.cm (fun c i k hc => by rw [ms_o (by omega)])
        refine AG.ok (ms M 0 (ix x) 6 d) (ms (tM (ms M 0 (ix x) 6 d) false) 26 0 (ix x) d) (v := M 0 (ix x) 6) (by unfold oSetMinimum; rw [ht, hq, if_pos rfl, if_pos rfl, if_pos h9]) (fun G2 => ?_) ?_ (DM_o h.DM (fun c i k hc => by rw [ms_o (by omega)])) ?_
        · unfold nSetMinimum
          rw [eth_n hR1, ht, if_neg (by decide), if_pos (by exact hq), if_pos (show tM (ms M 0 (ix x) 6 d) false 28 0 (ix x) = nI 99 by unfold tM; rw [ms_o (by omega), ms_o (by omega), hR.2.2.2.2.2.1]; exact h9), ms_o (by omega), hR.2.2.2.2.2.2.2.2.1]
        · rw [ms_o (by omega), tM_0]
        · refine IN_E (x := ix x) h (fun c i k h1 h2 h3 => ?_) ?_
          · unfold tM
            rw [ms_o (by omega), ms_o (by omega), ms_o (by omega)]
          · have hp := h.2.2 (ix x) he5
            unfold PE RE RR at hp ⊢
            simp [ms, tM]
            have hx3 := hp.2.2.1 hx2
            grind
      · exact AG.th xUOE 2 M (ms (tM M false) 3 0 0 (nI 3)) rfl (by unfold oSetMinimum; rw [ht, hq, if_pos rfl, if_pos rfl, if_neg h9]) (fun G2 => by
          unfold nSetMinimum; rw [eth_n h.RS, ht, if_neg (by decide), if_pos (by exact hq), if_neg (show ¬ tM M false 28 0 (ix x) = nI 99 by unfold tM; rw [ms_o (by omega), hR.2.2.2.2.2.1]; exact h9)]) ms_s h.DM (h.iv (Nsc.rf.mm (Mm_ms (Mm_t Mm.rf) rfl)))
theorem Rg_add {a b : Int32} (ha : Rg a 1000) (hb : Rg b 100) (h : a + b ≤ nI 999) : Rg (a + b) 1000 := by
  have h1 := ha.2
  have h2 := hb.2
  rw [ha.1, hb.1, nI_add] at h ⊢
  rw [nI_leI (by omega) (by omega)] at h
  exact Rg_n (by omega) (by omega)
theorem ag_addUnits {M : Mem} {mn en : Nat} {G : Lng} {x d : Int32} (h : IN M mn en) : AG [xIOB, xIAE, xISE] (oAddUnits M G x d) (fun M1 G2 => nAddUnits M1 G2 x d) G := by
  cases ht : eth M x
  · exact AG.th xIOB 0 M (ms M 3 0 0 (nI 1)) rfl (by unfold oAddUnits; rw [ht]; rfl) (fun G2 => by unfold nAddUnits; rw [eth_n h.RS, ht]; rfl) ms_s h.DM (h.iv (Nsc.rf.mm (Mm_ms Mm.rf rfl)))
  · have hx := eth_ix h.RS ht
    have he5 : ix x < 5 := by have := h.RS.1.2.2.2.2.2; have := hx.2; omega
    have hx2 := hx.2
    cases hq : btw d (nI 1) (nI 99)
    · exact AG.th xIAE 1 M (ms (tM M false) 3 0 0 (nI 2)) rfl (by unfold oAddUnits; rw [ht, hq]; rfl) (fun G2 => by
        unfold nAddUnits; rw [eth_n h.RS, ht, if_neg (by decide), if_neg (by rw [hq]; decide)]) ms_s h.DM (h.iv (Nsc.rf.mm (Mm_ms (Mm_t Mm.rf) rfl)))
    · have hR := h.RS.2.2.2.2.1 (ix x) hx2
      have r1 : Rg d 100 := btw_R1 hq (by omega)
      by_cases h9 : M 0 (ix x) 4 + d ≤ nI 999
      · have hR1 : RS M (ms M 0 (ix x) 4 (M 0 (ix x) 4 + d)) mn en := h.RS.cm (fun c i k hc => by rw [ms_o (by omega)])
        refine AG.ok (ms M 0 (ix x) 4 (M 0 (ix x) 4 + d)) (ms (tM (ms M 0 (ix x) 4 (M 0 (ix x) 4 + d)) false) 24 0 (ix x) (M 0 (ix x) 4 + d)) (v := M 0 (ix x) 4 + d) (by unfold oAddUnits; rw [ht, hq, if_pos rfl, if_pos rfl, if_pos h9]) (fun G2 => ?_) ?_ (DM_o h.DM (fun c i k hc => by rw [ms_o (by omega)])) ?_
        · unfold nAddUnits
          rw [eth_n hR1, ht, if_neg (by decide), if_pos (by exact hq), if_pos (show tM (ms M 0 (ix x) 4 (M 0 (ix x) 4 + d)) false 24 0 (ix x) + d ≤ nI 999 by unfold tM; rw [ms_o (by omega), ms_o (by omega), hR.2.2.2.2.2.2.1]; exact h9), ms_o (by omega), hR.2.2.2.2.2.2.1]
        · rw [ms_o (by omega), tM_0]
        · refine IN_E (x := ix x) h (fun c i k h1 h2 h3 => ?_) ?_
          · unfold tM
            rw [ms_o (by omega), ms_o (by omega), ms_o (by omega)]
          · have hp := h.2.2 (ix x) he5
            unfold PE RE RR at hp ⊢
            simp [ms, tM]
            have r2 := Rg_add hp.1.2.1 r1 h9
            have hx3 := hp.2.2.1 hx2
            grind
      · exact AG.th xISE 2 M (ms (tM M false) 3 0 0 (nI 3)) rfl (by unfold oAddUnits; rw [ht, hq, if_pos rfl, if_pos rfl, if_neg h9]) (fun G2 => by
          unfold nAddUnits; rw [eth_n h.RS, ht, if_neg (by decide), if_pos (by exact hq), if_neg (show ¬ tM M false 24 0 (ix x) + d ≤ nI 999 by unfold tM; rw [ms_o (by omega), hR.2.2.2.2.2.2.1]; exact h9)]) ms_s h.DM (h.iv (Nsc.rf.mm (Mm_ms (Mm_t Mm.rf) rfl)))
theorem ag_setRights {M : Mem} {mn en : Nat} {G : Lng} {x : Int32} {a b c : Bool} (h : IN M mn en) : AG [xIOB] (oSetRights M G x a b c) (fun M1 G2 => nSetRights M1 G2 x a b c) G := by
  cases ht : eth M x
  · exact AG.th xIOB 0 M (ms M 3 0 0 (nI 1)) rfl (by unfold oSetRights; rw [ht]; rfl) (fun G2 => by unfold nSetRights; rw [eth_n h.RS, ht]; rfl) ms_s h.DM (h.iv (Nsc.rf.mm (Mm_ms Mm.rf rfl)))
  · have hx := eth_ix h.RS ht
    have he5 : ix x < 5 := by have := h.RS.1.2.2.2.2.2; have := hx.2; omega
    have hx2 := hx.2
    have hR := h.RS.2.2.2.2.2.2 (ix x) he5
    have hR1 : RS M (ms (ms (ms M 0 (ix x) 8 (bi a)) 0 (ix x) 9 (bi b)) 0 (ix x) 10 (bi c)) mn en := h.RS.cm (fun c i k hc => by rw [ms_o (by omega), ms_o (by omega), ms_o (by omega)])
    refine AG.ok (ms (ms (ms M 0 (ix x) 8 (bi a)) 0 (ix x) 9 (bi b)) 0 (ix x) 10 (bi c)) (ms (ms (ms (tM (ms (ms (ms M 0 (ix x) 8 (bi a)) 0 (ix x) 9 (bi b)) 0 (ix x) 10 (bi c)) false) 18 0 (ix x) (bi a)) 19 0 (ix x) (bi b)) 20 0 (ix x) (bi c)) (v := cr M (ix x)) (by unfold oSetRights; rw [ht]; rfl) (fun G2 => ?_) ?_ (DM_o h.DM (fun c i k hc => by rw [ms_o (by omega), ms_o (by omega), ms_o (by omega)])) ?_
    · unfold nSetRights
      rw [eth_n hR1, ht, if_neg (by decide)]
      have e1 : crm (tM (ms (ms (ms M 0 (ix x) 8 (bi a)) 0 (ix x) 9 (bi b)) 0 (ix x) 10 (bi c)) false) (ix x) = cr M (ix x) := by
        unfold crm cr tM
        have e2 : ∀ k, 18 ≤ k → (ms (ms (ms (ms M 0 (ix x) 8 (bi a)) 0 (ix x) 9 (bi b)) 0 (ix x) 10 (bi c)) 3 0 0 (if false = true then nI 1 else nI 0)) k 0 (ix x) = M k 0 (ix x) := fun k hk => by rw [ms_o (by omega), ms_o (by omega), ms_o (by omega), ms_o (by omega)]
        rw [e2 18 (by omega), e2 19 (by omega), e2 20 (by omega), hR.1, hR.2.1, hR.2.2]
      rw [e1]
    · rw [ms_o (by omega), ms_o (by omega), ms_o (by omega), tM_0]
    · refine IN_E (x := ix x) h (fun c i k h1 h2 h3 => ?_) ?_
      · unfold tM
        rw [ms_o (by omega), ms_o (by omega), ms_o (by omega), ms_o (by omega), ms_o (by omega), ms_o (by omega), ms_o (by omega)]
      · have hp := h.2.2 (ix x) he5
        unfold PE RE RR at hp ⊢
        simp [ms, tM]
        have hx3 := hp.2.2.1 hx2
        grind
theorem lf_ch {M M2 : Mem} {x : Nat} (hx : x < 12) (ho : ∀ i, i ≠ x → M2 1 i 0 = M 1 i 0) : lf M2 0 + (if M 1 x 0 = 0 then 0 else 1) = lf M 0 + if M2 1 x 0 = 0 then 0 else 1 := by
  have h1 := su_ch (f := fun j => if 0 ≤ j ∧ ¬ M 1 j 0 = 0 then 1 else 0) (f2 := fun j => if 0 ≤ j ∧ ¬ M2 1 j 0 = 0 then 1 else 0) (k := x) (fun j hj => by simp only [ho j hj]) 12 hx
  have h2 : ∀ A : Mem, (if 0 ≤ x ∧ ¬ A 1 x 0 = 0 then 1 else 0) = if A 1 x 0 = 0 then 0 else 1 := fun A => by
    by_cases h : A 1 x 0 = 0 <;> simp [h]
  rw [h2, h2] at h1
  exact h1
theorem ag_retire {M : Mem} {mn en : Nat} {G : Lng} {x : Int32} (h : IN M mn en) : AG [xIOB] (oRetire M G x) (fun M1 G2 => nRetire M1 G2 x) G := by
  cases ht : thr M x
  · exact AG.th xIOB 0 M (ms M 3 0 0 (nI 1)) rfl (by unfold oRetire; rw [ht]; rfl) (fun G2 => by unfold nRetire; rw [thr_n h.RS, ht]; rfl) ms_s h.DM (h.iv (Nsc.rf.mm (Mm_ms Mm.rf rfl)))
  · have hx := thr_ix h.RS ht
    have hm := h.RS.1.2.2.2.2.1
    have hx2 := hx.1.2
    have hd := h.1
    unfold HD at hd
    have hR1 : RS M (ms (ms M 1 (ix x) 0 (nI 0)) 2 0 3 (M 2 0 3 - nI 1)) mn en := h.RS.cm (fun c i k hc => by rw [ms_o (by omega), ms_o (by omega)])
    have e3 : (ms (ms M 1 (ix x) 0 (nI 0)) 2 0 3 (M 2 0 3 - nI 1)) 3 0 2 = M 2 0 3 := by rw [ms_o (by omega), ms_o (by omega), hd.1.2.2.2.2.1, hd.1.2.2.2.2.2]
    have hl := lf_ch (M := M) (M2 := ms (ms (tM (ms (ms M 1 (ix x) 0 (nI 0)) 2 0 3 (M 2 0 3 - nI 1)) false) 17 0 (ix x) (nI 1)) 3 0 2 (M 2 0 3 - nI 1)) (x := ix x) (by omega) (fun i hi => by unfold tM; rw [ms_o (by omega), ms_o (by omega), ms_o (by omega), ms_o (by omega), ms_o (by omega)])
    have e4 : (ms (ms (tM (ms (ms M 1 (ix x) 0 (nI 0)) 2 0 3 (M 2 0 3 - nI 1)) false) 17 0 (ix x) (nI 1)) 3 0 2 (M 2 0 3 - nI 1)) 1 (ix x) 0 = 0 := by unfold tM; rw [ms_o (by omega), ms_o (by omega), ms_o (by omega), ms_o (by omega), ms_s]; rfl
    rw [if_neg hx.2, if_pos e4] at hl
    refine AG.ok (ms (ms M 1 (ix x) 0 (nI 0)) 2 0 3 (M 2 0 3 - nI 1)) (ms (ms (tM (ms (ms M 1 (ix x) 0 (nI 0)) 2 0 3 (M 2 0 3 - nI 1)) false) 17 0 (ix x) (nI 1)) 3 0 2 (M 2 0 3 - nI 1)) (v := M 2 0 3 - nI 1) (by unfold oRetire; rw [ht]; rfl) (fun G2 => ?_) ?_ ?_ ?_
    · unfold nRetire
      rw [thr_n hR1, ht, if_neg (by decide), e3]
    · rw [ms_o (by omega), ms_o (by omega), tM_0]
    · exact DM_o h.DM (fun c i k hc => by rw [ms_o (by omega), ms_o (by omega)])
    · have e5 : M 2 0 3 - nI 1 = nI (lf (ms (ms (tM (ms (ms M 1 (ix x) 0 (nI 0)) 2 0 3 (M 2 0 3 - nI 1)) false) 17 0 (ix x) (nI 1)) 3 0 2 (M 2 0 3 - nI 1)) 0) := by
        have e6 : ∀ A : Mem, lf A 0 + 1 = lf M 0 → M 2 0 3 - nI 1 = nI (lf A 0) := fun A hA => by
          rw [hd.1.2.2.2.2.2, sub_n (by omega)]
          congr 1
          omega
        exact e6 _ (by omega)
      generalize hM2 : ms (ms (tM (ms (ms M 1 (ix x) 0 (nI 0)) 2 0 3 (M 2 0 3 - nI 1)) false) 17 0 (ix x) (nI 1)) 3 0 2 (M 2 0 3 - nI 1) = M2 at hl e5
      have hc : ∀ c i k, ¬ (c = 3 ∧ k = 0) → ¬ (c = 3 ∧ k = 2) → ¬ (c = 2 ∧ k = 3) → ¬ (c = 1 ∧ i = ix x) → ¬ (10 ≤ c ∧ c < 18 ∧ k = ix x) → M2 c i k = M c i k := fun c i k h1 h2 h3 h4 h5 => by
        rw [← hM2]; unfold tM
        rw [ms_o (by omega), ms_o (by omega), ms_o (by omega), ms_o (by omega), ms_o (by omega)]
      refine ⟨mn, en, ?_, fun i hi => ?_, fun e he => PE_cg (fun k hk => hc 0 e k (by omega) (by omega) (by omega) (by omega) (by omega)) (fun c h1 h2 => hc c 0 e (by omega) (by omega) (by omega) (by omega) (by omega)) (h.2.2 e he)⟩
      · unfold HD
        rw [hc 2 0 2 (by omega) (by omega) (by omega) (by omega) (by omega), hc 3 0 1 (by omega) (by omega) (by omega) (by omega) (by omega), hc 2 0 4 (by omega) (by omega) (by omega) (by omega) (by omega), hc 3 0 3 (by omega) (by omega) (by omega) (by omega) (by omega)]
        refine ⟨⟨hd.1.1, hd.1.2.1, hd.1.2.2.1, hd.1.2.2.2.1, ?_, ?_⟩, hd.2.1, hd.2.2.1, by omega⟩
        · rw [← e5, ← hM2, ms_s]
        · rw [← e5, ← hM2]; unfold tM; rw [ms_o (by omega), ms_o (by omega), ms_o (by omega), ms_s]
      · by_cases hxi : i = ix x
        · have hp := h.2.1 i hi
          rw [hxi] at hp ⊢
          unfold PI RI at hp ⊢
          rw [← hM2]
          simp [ms, tM]
          have hx3 := hp.2.1 hx2
          have n0 : nI 0 = 0 := rfl
          have n1 : ¬ nI 1 = 0 := by decide
          grind
        · exact PI_cg (fun k _ => hc 1 i k (by omega) (by omega) (by omega) (by omega) (by omega)) (fun c h1 h2 => hc c 0 i (by omega) (by omega) (by omega) (by omega) (by omega)) (h.2.1 i hi)
end Mut
