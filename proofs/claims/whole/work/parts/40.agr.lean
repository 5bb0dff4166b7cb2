/-! CLASS AND MODEL AGREE: the questions -/
section Agr
def T0 (M M1 : Mem) : Prop := M1 3 0 0 = M 3 0 0
theorem T0.rf {M : Mem} : T0 M M := rfl
theorem T0_ms {M M1 : Mem} {c i k : Nat} {v : Int32} (h : T0 M M1) (hc : ¬ (c = 3 ∧ k = 0)) : T0 M (ms M1 c i k v) := by
  unfold T0
  rw [ms_o (by omega)]
  exact h
theorem T0_itn {M M1 : Mem} {g : Nat → Mem → Mem} (hg : ∀ k A, T0 M A → T0 M (g k A)) (h : T0 M M1) : ∀ n, T0 M (itn g n M1)
  | 0 => h
  | n + 1 => hg n _ (T0_itn hg h n)
theorem T0_gr {M M1 : Mem} {e a u : Int32} (h : T0 M M1) : T0 M (grM M1 e a u) := by
  refine T0_itn (g := gaG e a u) (fun k A h => ?_) (T0_itn (g := zcG) (fun _ _ h => T0_ms h (by omega)) h 4) _
  unfold gaG
  split <;> split <;> first | exact T0_ms h (by omega) | exact h
theorem T0_nd {M M1 : Mem} {e : Nat} (h : T0 M M1) : T0 M (ndM M1 e) := by
  unfold ndM; split
  · exact h
  · exact T0_itn (fun k A h => T0_gr h) h 10
theorem T0_tk {M M1 : Mem} (h : T0 M M1) : T0 M (tkN M1) := T0_itn (fun _ _ h => T0_ms h (by omega)) h _
theorem T0_pt {M M1 : Mem} (h : T0 M M1) : T0 M (ptN M1) := T0_itn (fun _ _ h => T0_ms h (by omega)) h _
theorem T0_bg {M M1 : Mem} (h : T0 M M1) : T0 M (bgN M1) := T0_itn (fun _ _ h => T0_ms h (by omega)) (T0_ms h (by omega)) _
theorem T0_cs {M M1 : Mem} (h : T0 M M1) : T0 M (csM M1) := T0_itn (fun _ _ h => T0_nd h) h _
theorem T0_kv : ∀ {d i : Nat} {a b : Int32} {M M1 : Mem}, T0 M M1 → T0 M (kv d i a b M1)
  | 0, i, a, b, M, M1, h => by
    unfold kv; split
    · exact T0_tk (T0_ms h (by omega))
    · exact h
  | d + 1, i, a, b, M, M1, h => by
    unfold kv; split
    · split
      · refine T0_kv (T0_ms (T0_itn (fun e A hA => ?_) h _) (by omega))
        unfold kvG; split
        · split
          · exact T0_kv (T0_nd (T0_ms hA (by omega)))
          · exact T0_nd (T0_ms hA (by omega))
        · exact hA
      · exact T0_kv h
    · exact h
theorem T0_bs : ∀ {d i : Nat} {M M1 : Mem}, T0 M M1 → T0 M (bs d i M1)
  | 0, i, M, M1, h => by
    unfold bs; split
    · exact T0_tk (T0_ms (T0_cs h) (by omega))
    · exact T0_cs h
  | d + 1, i, M, M1, h => by
    unfold bs; split
    · split
      · refine T0_ms (T0_itn (fun e A hA => ?_) (T0_cs h) _) (by omega)
        unfold bsG; split
        · exact T0_bs (T0_ms hA (by omega))
        · exact hA
      · exact T0_bs (T0_cs h)
    · exact T0_cs h
theorem T0_co {M M1 : Mem} (h : T0 M M1) : T0 M (coM M1) := T0_pt (T0_kv (T0_bg h))
theorem pu_0 (M : Mem) : puM M 3 0 0 = nI 0 := by
  have h : T0 (ms M 3 0 0 (nI 0)) (puM M) := T0_pt (T0_bs (T0_bg T0.rf))
  exact h.trans ms_s
theorem T0_uh {M M1 : Mem} {e : Nat} (h : T0 M M1) : T0 M (uhN M1 e) := T0_itn (fun _ _ h => T0_ms h (by omega)) h _
theorem Mm_uh {M M1 : Mem} {e : Nat} (h : Mm M M1) : Mm M (uhN M1 e) := Mm_itn (fun _ _ h => Mm_ms h rfl) h _
theorem IN.iv {M M1 : Mem} {mn en : Nat} (h : IN M mn en) (hs : Nsc M M1) : INV M1 := ⟨mn, en, h.ns hs⟩
/-- the counts of what fits -/
theorem cfm_n {C M : Mem} {mn en i : Nat} (hD : DI C) (h : RS C M mn en) (hi : i < mn) (ht : M 17 0 i = 0) : cfm M i en = cf C i 5 := by
  have h1 : ∀ k, k ≤ en → cfm M i k = cf C i k := fun k => by
    induction k with
    | zero => exact fun _ => rfl
    | succ k ih =>
      intro hk
      unfold cfm cf
      rw [ih (by omega), fim_n hD h hi (by omega) ht]
      cases fit C k i
      · rw [if_neg (by decide), if_neg (by decide)]; exact Int32.add_zero _
      · rw [if_pos rfl, if_pos rfl]
  have h2 : ∀ k, en + k ≤ 5 → cf C i (en + k) = cf C i en := fun k => by
    induction k with
    | zero => exact fun _ => rfl
    | succ k ih =>
      intro hk
      show (if fit C (en + k) i = true then cf C i (en + k) + nI 1 else cf C i (en + k)) = _
      rw [h.Fe (by omega) (by omega), if_neg (by decide)]
      exact ih (by omega)
  have h3 := h2 (5 - en) (by have := h.1.2.2.2.2.2; omega)
  rw [show en + (5 - en) = 5 by have := h.1.2.2.2.2.2; omega] at h3
  rw [h1 en (Nat.le_refl _), h3]
theorem ckF_up {C : Mem} : ∀ n m i, ckF C (n + m) i = (ckF C n i && ckF C m (i + n))
  | 0, m, i => by rw [Nat.zero_add]; rfl
  | n + 1, m, i => by
    rw [show n + 1 + m = (n + m) + 1 by omega]
    show ((decide (C 1 i 0 = 0) || !decide (cf C i 5 = 0)) && ckF C (n + m) (i + 1)) = ((decide (C 1 i 0 = 0) || !decide (cf C i 5 = 0)) && ckF C n (i + 1) && ckF C m (i + (n + 1)))
    rw [ckF_up n m (i + 1), show i + 1 + n = i + (n + 1) by omega, Bool.and_assoc]
theorem ckF_no {C : Mem} : ∀ n i, (∀ j, i ≤ j → j < i + n → C 1 j 0 = 0) → ckF C n i = true
  | 0, _, _ => rfl
  | n + 1, i, h => by
    unfold ckF
    rw [ckF_no n (i + 1) (fun j h1 h2 => h j (by omega) (by omega)), h i (by omega) (by omega)]
    rfl
theorem npF_n {C M : Mem} {mn en : Nat} (hD : DI C) (h : RS C M mn en) : ∀ n i, i + n = mn → npF M n i = ckF C n i
  | 0, _, _ => rfl
  | n + 1, i, hi => by
    have ht := th_n h (show i < mn by omega)
    have ⟨m, h1, h2, h3⟩ := cf_n C i 5
    unfold npF ckF
    rw [npF_n hD h n (i + 1) (by omega), h.en]
    congr 1
    by_cases hz : C 1 i 0 = 0
    · have h4 : ¬ M 17 0 i = 0 := by rw [ht]; simp [hz]
      simp [hz, h4]
    · have h4 : M 17 0 i = 0 := by rw [ht]; exact hz
      have h6 : ∀ k : Fin 6, (nI k.val = 0) ↔ (nI k.val ≤ 0) := by decide
      have h7 := h6 ⟨m, by omega⟩
      rw [cfm_n hD h (by omega) h4, h2]
      simp only [hz, h4, h7]
      simp
theorem npA_n {C M : Mem} {mn en : Nat} (hD : DI C) (h : RS C M mn en) : npA M = ckF C 12 0 := by
  have hm := h.1.2.2.2.2.1
  have h1 := ckF_up (C := C) mn (12 - mn) 0
  rw [show mn + (12 - mn) = 12 by omega, ckF_no (12 - mn) (0 + mn) (fun j h1 h2 => (h.2.2.2.1 j (by omega) (by omega)).1), Bool.and_true] at h1
  unfold npA
  rw [h.mn, npF_n hD h mn 0 (by omega), h1]
theorem fim_mm {M M1 : Mem} (h : Mm M M1) (e i : Nat) : fim M1 e i = fim M e i := by
  unfold fim mim
  rw [h 21 0 e rfl, h 10 0 i rfl, h 25 0 e rfl, h 16 0 i rfl, h 23 0 e rfl, h 12 0 i rfl, h 18 0 e rfl, h 22 0 e rfl, h 11 0 i rfl, h 19 0 e rfl]
theorem ufH_n {M : Mem} {e : Nat} : ∀ k i, i < k → itn (ufH e) k M 29 0 i = if fim M e i = true then nI e else -1
  | 0, i, h => by omega
  | k + 1, i, h => by
    have hm : Mm M (itn (ufH e) k M) := Mm_itn (fun _ _ h => Mm_ms h rfl) Mm.rf k
    show ms (itn (ufH e) k M) 29 0 k (if fim (itn (ufH e) k M) e k = true then nI e else -1) 29 0 i = _
    rw [fim_mm hm]
    by_cases hk : i = k
    · rw [hk, ms_s]
    · rw [ms_o (by omega)]
      exact ufH_n k i (by omega)
theorem uh_KA {C M : Mem} {mn en e : Nat} (hD : DI C) (h : RS C M mn en) (he : e < en) : KA C (uhN M e) mn en (gu C e 12) := by
  have h1 : RS C (uhN M e) mn en := h.mm (Mm_uh Mm.rf)
  have hm := h.1.2.2.2.2.1
  refine ⟨h1, fun j => ?_, fun i hi ht => ?_⟩
  · by_cases hj : j < 12 ∧ fit C e j = true
    · refine .inr ⟨?_, e, he, hj.2, by unfold gu; rw [if_pos hj]⟩
      by_cases hq : j < mn
      · exact hq
      · have := h.Fi (e := e) (show mn ≤ j by omega) hj.1
        rw [hj.2] at this
        cases this
    · exact .inl (by unfold gu; rw [if_neg hj])
  · have ht2 : M 17 0 i = 0 := by
      rw [← Mm_uh (e := e) (Mm.rf (M := M)) 17 0 i rfl]; exact ht
    unfold uhN
    rw [h.mn, ufH_n mn i hi, fim_n hD h hi he ht2]
    unfold gu
    by_cases hf : fit C e i = true
    · rw [if_pos hf, if_pos ⟨by omega, hf⟩]; rfl
    · rw [if_neg hf, if_neg (fun z => hf z.2)]; rfl
theorem bst_2 {st : St} (h : st.isSome = true) : bst 1000000 st = bst (-1) st := by
  cases st with
  | none => cases h
  | some q => rfl
theorem ag_units {M : Mem} {mn en : Nat} {G : Lng} {x : Int32} (h : IN M mn en) : AG [xIOB] (oUnits M G x) (fun M1 G2 => nUnits M1 G2 x) G := by
  cases ht : eth M x
  · exact AG.th xIOB 0 M (ms M 3 0 0 (nI 1)) rfl (by unfold oUnits; rw [ht]; rfl) (fun G2 => by unfold nUnits; rw [eth_n h.RS, ht]; rfl) ms_s h.DM (h.iv (Nsc.rf.mm (Mm_ms Mm.rf rfl)))
  · have hx := eth_ix h.RS ht
    exact AG.ok M (tM M false) (v := M 0 (ix x) 4) (by unfold oUnits; rw [ht]; rfl) (fun G2 => by
      unfold nUnits; rw [eth_n h.RS, ht, if_neg (by decide), (h.RS.2.2.2.2.1 (ix x) hx.2).2.2.2.2.2.2.1]) tM_0 h.DM (h.iv (Nsc.rf.mm (Mm_t Mm.rf)))
theorem ag_why {M : Mem} {mn en : Nat} {G : Lng} {x y : Int32} (h : IN M mn en) : AG [xIOB] (oWhy M G x y) (fun M1 G2 => nWhyy M1 G2 x y) G := by
  have hR1 : RS M (tM M false) mn en := h.RS.mm (Mm_t Mm.rf)
  cases ht : thr M x
  · exact AG.th xIOB 0 M (tM M true) rfl (by unfold oWhy; rw [ht]; rfl) (fun G2 => by unfold nWhyy; rw [thr_n h.RS, ht]; rfl) tM_1 h.DM (h.iv (Nsc.rf.mm (Mm_t Mm.rf)))
  · have hx := thr_ix h.RS ht
    cases hu : eth M y
    · exact AG.th xIOB 0 M (tM (tM M false) true) rfl (by unfold oWhy; rw [ht, hu]; rfl) (fun G2 => by unfold nWhyy; rw [thr_n h.RS, ht, eth_n hR1, hu]; rfl) tM_1 h.DM (h.iv (Nsc.rf.mm (Mm_t (Mm_t Mm.rf))))
    · have hy := eth_ix h.RS hu
      exact AG.ok M (tM (tM M false) false) (v := mis M (ix y) (ix x)) (by unfold oWhy; rw [ht, hu]; rfl) (fun G2 => by
        unfold nWhyy; rw [thr_n h.RS, ht, eth_n hR1, hu, if_neg (by decide), if_neg (by decide), mis_n h.DI (h.RS.mm (Mm_t (Mm_t Mm.rf))) hx.1.2 hy.2]) tM_0 h.DM (h.iv (Nsc.rf.mm (Mm_t (Mm_t Mm.rf))))
theorem ag_fitting {M : Mem} {mn en : Nat} {G : Lng} {x : Int32} (h : IN M mn en) : AG [xIOB] (oFitting M G x) (fun M1 G2 => nFitting M1 G2 x) G := by
  have hR1 : RS M (tM M false) mn en := h.RS.mm (Mm_t Mm.rf)
  cases ht : thr M x
  · exact AG.th xIOB 0 M (tM M true) rfl (by unfold oFitting; rw [ht]; rfl) (fun G2 => by unfold nFitting; rw [thr_n h.RS, ht]; rfl) tM_1 h.DM (h.iv (Nsc.rf.mm (Mm_t Mm.rf)))
  · have hx := thr_ix h.RS ht
    exact AG.ok M (tM M false) (v := cf M (ix x) 5) (by unfold oFitting; rw [ht]; rfl) (fun G2 => by
      unfold nFitting; rw [thr_n h.RS, ht, if_neg (by decide), hR1.en, cfm_n h.DI hR1 hx.1.2 (by rw [th_n hR1 hx.1.2]; exact hx.2)]) tM_0 h.DM (h.iv (Nsc.rf.mm (Mm_t Mm.rf)))
theorem ffO_z {M : Mem} {G : Lng} {i : Nat} : ∀ n e, (∀ k, e ≤ k → k < e + n → fit M k i = false) → ffO M G i n e = thO xNSE M G
  | 0, _, _ => rfl
  | n + 1, e, h => by
    unfold ffO
    rw [h e (by omega) (by omega), if_neg (by decide)]
    exact ffO_z n (e + 1) (fun k h1 h2 => h k (by omega) (by omega))
theorem ff_n {C M : Mem} {G : Lng} {mn en i : Nat} (hD : DI C) (h : RS C M mn en) (hi : i < mn) (ht : M 17 0 i = 0) : ∀ n e, e + n = en →
    (∃ k, ffO C G i (n + (5 - en)) e = okO (some (.int (nI k))) C G ∧ ∀ G2, nfF M G2 i n e = okO (some (.int (nI k))) M G2) ∨
    (ffO C G i (n + (5 - en)) e = thO xNSE C G ∧ ∀ G2, nfF M G2 i n e = okO (some (.int (nI 0))) (ms M 3 0 0 (nI 2)) G2)
  | 0, e, he => by
    refine .inr ⟨?_, fun _ => rfl⟩
    rw [Nat.zero_add]
    exact ffO_z _ _ (fun k h1 h2 => h.Fe (by omega) (by have := h.1.2.2.2.2.2; omega))
  | n + 1, e, he => by
    rw [show n + 1 + (5 - en) = (n + (5 - en)) + 1 by omega]
    have hf := fim_n hD h hi (show e < en by omega) ht
    cases hq : fit C e i
    · rcases ff_n hD h hi ht n (e + 1) (by omega) with ⟨k, h1, h2⟩ | ⟨h1, h2⟩
      · refine .inl ⟨k, ?_, fun G2 => ?_⟩
        · show (if fit C e i = true then _ else ffO C G i (n + (5 - en)) (e + 1)) = _
          rw [hq, if_neg (by decide)]; exact h1
        · show (if fim M e i = true then _ else nfF M G2 i n (e + 1)) = _
          rw [hf, hq, if_neg (by decide)]; exact h2 G2
      · refine .inr ⟨?_, fun G2 => ?_⟩
        · show (if fit C e i = true then _ else ffO C G i (n + (5 - en)) (e + 1)) = _
          rw [hq, if_neg (by decide)]; exact h1
        · show (if fim M e i = true then _ else nfF M G2 i n (e + 1)) = _
          rw [hf, hq, if_neg (by decide)]; exact h2 G2
    · refine .inl ⟨e, ?_, fun G2 => ?_⟩
      · show (if fit C e i = true then _ else ffO C G i (n + (5 - en)) (e + 1)) = _
        rw [hq, if_pos rfl]
      · show (if fim M e i = true then _ else nfF M G2 i n (e + 1)) = _
        rw [hf, hq, if_pos rfl]
theorem ag_first {M : Mem} {mn en : Nat} {G : Lng} {x : Int32} (h : IN M mn en) : AG [xIOB, xNSE] (oFirst M G x) (fun M1 G2 => nFirst M1 G2 x) G := by
  have hR1 : RS M (tM M false) mn en := h.RS.mm (Mm_t Mm.rf)
  cases ht : thr M x
  · exact AG.th xIOB 0 M (tM M true) rfl (by unfold oFirst; rw [ht]; rfl) (fun G2 => by unfold nFirst; rw [thr_n h.RS, ht]; rfl) tM_1 h.DM (h.iv (Nsc.rf.mm (Mm_t Mm.rf)))
  · have hx := thr_ix h.RS ht
    have hen := h.RS.1.2.2.2.2.2
    have h1 := ff_n (G := G) h.DI hR1 hx.1.2 (by rw [th_n hR1 hx.1.2]; exact hx.2) en 0 (by omega)
    rw [show en + (5 - en) = 5 by omega] at h1
    rcases h1 with ⟨k, h1, h2⟩ | ⟨h1, h2⟩
    · exact AG.ok M (tM M false) (v := nI k) (by unfold oFirst; rw [ht, if_pos rfl]; exact h1) (fun G2 => by
        unfold nFirst; rw [thr_n h.RS, ht, if_neg (by decide), hR1.en]; exact h2 G2) tM_0 h.DM (h.iv (Nsc.rf.mm (Mm_t Mm.rf)))
    · exact AG.th xNSE 1 M (ms (tM M false) 3 0 0 (nI 2)) rfl (by unfold oFirst; rw [ht, if_pos rfl]; exact h1) (fun G2 => by
        unfold nFirst; rw [thr_n h.RS, ht, if_neg (by decide), hR1.en]; exact h2 G2) ms_s h.DM (h.iv (Nsc.rf.mm (Mm_ms (Mm_t Mm.rf) rfl)))
theorem ag_UFA {M : Mem} {mn en : Nat} {G : Lng} {x : Int32} (h : IN M mn en) : AG [xIOB] (oUFA M G x) (fun M1 G2 => nUFA M1 G2 x) G := by
  cases ht : eth M x
  · exact AG.th xIOB 0 M (tM M true) rfl (by unfold oUFA; rw [ht]; rfl) (fun G2 => by unfold nUFA; rw [eth_n h.RS, ht]; rfl) tM_1 h.DM (h.iv (Nsc.rf.mm (Mm_t Mm.rf)))
  · have hx := eth_ix h.RS ht
    have he5 : ix x < 5 := by have := h.RS.1.2.2.2.2.2; have := hx.2; omega
    have hs : Sm M (ufa M (ix x)) := (ufG_n h.DI h.CR he5 (Sm_clr Sm.rf) clr_CN 12 (Nat.le_refl _)).1
    have hR0 : RS M (ufa M (ix x)) mn en := h.RS.cg hs
    have hR1 : RS M (tM (ufa M (ix x)) false) mn en := hR0.mm (Mm_t Mm.rf)
    exact AG.ok (ufa M (ix x)) (ndM (uhN (tM (ufa M (ix x)) false) (ix x)) (ix x)) (v := nI (nd M (gu M (ix x) 12) (ix x))) (by unfold oUFA; rw [ht, if_pos rfl, ufa_n h.DI h.CR he5]) (fun G2 => by
      unfold nUFA; rw [eth_n hR0, ht, if_neg (by decide), ndV_n h.DI h.CR (uh_KA h.DI hR1 hx.2) hx.2]) (Eq.trans (T0_nd (T0_uh T0.rf)) tM_0) (DM_sm h.DM hs) (h.iv ((Nsc.rf.sm hs).mm (Mm_nd (Mm_uh (Mm_t Mm.rf)))))
theorem ag_covered {M : Mem} {mn en : Nat} (h : IN M mn en) : fcM M 2 0 9 = coM (fcM M) 3 0 4 ∧ DM (fcM M) ∧ INV (coM (fcM M)) := by
  have hs : Sm M (fcM M) := Sm_fc Sm.rf
  have h1 := fc_n h.DI h.CR
  have h2 := coM_n h.DI h.CR (h.RS.cg hs)
  exact ⟨h1.1.trans h2.2.2.symm, DM_sm h.DM hs, h.iv ((Nsc.rf.sm hs).mm (Mm_co Mm.rf))⟩
theorem ag_CT {M : Mem} {mn en : Nat} {G : Lng} (h : IN M mn en) : AG [xUOE] (oCT M G) nCT G := by
  have hd := h.1
  unfold HD at hd
  by_cases hc : M 2 0 3 ≤ nI 4
  · have hs : Sm M (tcM M) := (tc_CS h.DI h.CR).1.1
    have hR0 : RS M (tcM M) mn en := h.RS.cg hs
    have h2 := coM_n h.DI h.CR (hR0.mm (Mm_ms (v := nI 0) (c := 3) (i := 0) (k := 0) Mm.rf rfl))
    have hc2 : tcM M 3 0 2 ≤ nI 4 := by rw [hR0.2.1.1]; exact hc
    exact AG.ok (tcM M) (coM (ms (tcM M) 3 0 0 (nI 0))) (v := bst (-1) (bT M)) (by unfold oCT; rw [if_pos hc, (tc_CS h.DI h.CR).2.1]) (fun G2 => by
      unfold nCT nCovered; rw [if_pos hc2, h2.2.2]) (Eq.trans (T0_co T0.rf) ms_s) (DM_sm h.DM hs) (h.iv ((Nsc.rf.sm hs).mm (Mm_co (Mm_ms Mm.rf rfl))))
  · have hc2 : ¬ M 3 0 2 ≤ nI 4 := by rw [h.RS.2.1.1]; exact hc
    exact AG.th xUOE 0 M (ms M 3 0 0 (nI 1)) rfl (by unfold oCT; rw [if_neg hc]) (fun G2 => by unfold nCT; rw [if_neg hc2]; rfl) ms_s h.DM (h.iv (Nsc.rf.mm (Mm_ms Mm.rf rfl)))
theorem ag_EOf {M : Mem} {mn en : Nat} {G : Lng} {x : Int32} (h : IN M mn en) : AG [xIOB, xNSE] (oEOf M G x) (fun M1 G2 => nEOf M1 G2 x) G := by
  cases ht : thr M x
  · exact AG.th xIOB 0 M (tM M true) rfl (by unfold oEOf; rw [ht]; rfl) (fun G2 => by unfold nEOf; rw [thr_n h.RS, ht]; rfl) tM_1 h.DM (h.iv (Nsc.rf.mm (Mm_t Mm.rf)))
  · have hx := thr_ix h.RS ht
    have hm := h.RS.1.2.2.2.2.1
    have hs : Sm M (fcM M) := Sm_fc Sm.rf
    have hR0 : RS M (fcM M) mn en := h.RS.cg hs
    have h1 := (fc_n h.DI h.CR).2.1 (ix x) (by have := hx.1.2; omega)
    have h2 := (coM_n h.DI h.CR (hR0.mm (Mm_t (b := false) Mm.rf))).2.1 (ix x) hx.1.2
    by_cases hz : dv (bsg (bT M) (ix x)) = -1
    · exact AG.th xNSE 1 (fcM M) (ms (coM (tM (fcM M) false)) 3 0 0 (nI 2)) rfl (by unfold oEOf; rw [ht, if_pos rfl, h1, if_pos hz]) (fun G2 => by
        unfold nEOf; rw [thr_n hR0, ht, if_neg (by decide), h2, if_pos hz]) ms_s (DM_sm h.DM hs) (h.iv ((Nsc.rf.sm hs).mm (Mm_ms (Mm_co (Mm_t Mm.rf)) rfl)))
    · exact AG.ok (fcM M) (coM (tM (fcM M) false)) (v := dv (bsg (bT M) (ix x))) (by unfold oEOf; rw [ht, if_pos rfl, h1, if_neg hz]) (fun G2 => by
        unfold nEOf; rw [thr_n hR0, ht, if_neg (by decide), h2, if_neg hz]) (Eq.trans (T0_co T0.rf) tM_0) (DM_sm h.DM hs) (h.iv ((Nsc.rf.sm hs).mm (Mm_co (Mm_t Mm.rf))))
theorem ag_reason {M : Mem} {mn en : Nat} {G : Lng} {x : Int32} (h : IN M mn en) : AG [xIOB] (oReason M G x) (fun M1 G2 => nReason M1 G2 x) G := by
  cases ht : thr M x
  · exact AG.th xIOB 0 M (tM M true) rfl (by unfold oReason; rw [ht]; rfl) (fun G2 => by unfold nReason; rw [thr_n h.RS, ht]; rfl) tM_1 h.DM (h.iv (Nsc.rf.mm (Mm_t Mm.rf)))
  · have hx := thr_ix h.RS ht
    have hm := h.RS.1.2.2.2.2.1
    have hs : Sm M (fcM M) := Sm_fc Sm.rf
    have hR0 : RS M (fcM M) mn en := h.RS.cg hs
    have hR1 : RS M (tM (fcM M) false) mn en := hR0.mm (Mm_t Mm.rf)
    have hR2 : RS M (coM (tM (fcM M) false)) mn en := hR1.mm (Mm_co Mm.rf)
    have h1 := (fc_n h.DI h.CR).2.1 (ix x) (by have := hx.1.2; omega)
    have h2 := (coM_n h.DI h.CR hR1).2.1 (ix x) hx.1.2
    have h3 : cfm (coM (tM (fcM M) false)) (ix x) (ix (coM (tM (fcM M) false) 3 0 3)) = cf M (ix x) 5 := by
      rw [hR2.en]; exact cfm_n h.DI hR2 hx.1.2 (by rw [th_n hR2 hx.1.2]; exact hx.2)
    have hI : INV (coM (tM (fcM M) false)) := h.iv ((Nsc.rf.sm hs).mm (Mm_co (Mm_t Mm.rf)))
    have h0 : coM (tM (fcM M) false) 3 0 0 = nI 0 := Eq.trans (T0_co T0.rf) tM_0
    by_cases hz : dv (bsg (bT M) (ix x)) = -1
    · by_cases hf : cf M (ix x) 5 = 0
      · exact AG.ok (fcM M) (coM (tM (fcM M) false)) (v := nI 110) (by unfold oReason; rw [ht, if_pos rfl, h1, if_pos hz, cf_sm hs, if_pos hf]) (fun G2 => by
          unfold nReason; rw [thr_n hR0, ht, if_neg (by decide), h2, if_pos hz, h3, if_pos hf]) h0 (DM_sm h.DM hs) hI
      · exact AG.ok (fcM M) (coM (tM (fcM M) false)) (v := nI 117) (by unfold oReason; rw [ht, if_pos rfl, h1, if_pos hz, cf_sm hs, if_neg hf]) (fun G2 => by
          unfold nReason; rw [thr_n hR0, ht, if_neg (by decide), h2, if_pos hz, h3, if_neg hf]) h0 (DM_sm h.DM hs) hI
    · exact AG.ok (fcM M) (coM (tM (fcM M) false)) (v := nI 99) (by unfold oReason; rw [ht, if_pos rfl, h1, if_neg hz]) (fun G2 => by
        unfold nReason; rw [thr_n hR0, ht, if_neg (by decide), h2, if_neg hz]) h0 (DM_sm h.DM hs) hI
theorem ag_used {M : Mem} {mn en : Nat} {G : Lng} {x : Int32} (h : IN M mn en) : AG [xIOB] (oUsed M G x) (fun M1 G2 => nUsed M1 G2 x) G := by
  cases ht : eth M x
  · exact AG.th xIOB 0 M (tM M true) rfl (by unfold oUsed; rw [ht]; rfl) (fun G2 => by unfold nUsed; rw [eth_n h.RS, ht]; rfl) tM_1 h.DM (h.iv (Nsc.rf.mm (Mm_t Mm.rf)))
  · have hx := eth_ix h.RS ht
    have he5 : ix x < 5 := by have := h.RS.1.2.2.2.2.2; have := hx.2; omega
    have hs : Sm M (svB (fcM M)) := Sm_svB (Sm_fc Sm.rf)
    have hR0 : RS M (svB (fcM M)) mn en := h.RS.cg hs
    have hR1 : RS M (tM (svB (fcM M)) false) mn en := hR0.mm (Mm_t Mm.rf)
    exact AG.ok (svB (fcM M)) (ndM (coM (tM (svB (fcM M)) false)) (ix x)) (v := nI (nd M (bsg (bT M)) (ix x))) (by unfold oUsed; rw [ht, if_pos rfl, (fc_n h.DI h.CR).2.2 _ he5]) (fun G2 => by
      unfold nUsed; rw [eth_n hR0, ht, if_neg (by decide), ndV_n h.DI h.CR (coM_n h.DI h.CR hR1).1 hx.2]) (Eq.trans (T0_nd (T0_co T0.rf)) tM_0) (DM_sm h.DM hs) (h.iv ((Nsc.rf.sm hs).mm (Mm_nd (Mm_co (Mm_t Mm.rf)))))
theorem ag_spare {M : Mem} {mn en : Nat} {G : Lng} {x : Int32} (h : IN M mn en) : AG [xIOB] (oSpare M G x) (fun M1 G2 => nSpare M1 G2 x) G := by
  cases ht : eth M x
  · exact AG.th xIOB 0 M (tM M true) rfl (by unfold oSpare; rw [ht]; rfl) (fun G2 => by unfold nSpare; rw [eth_n h.RS, ht]; rfl) tM_1 h.DM (h.iv (Nsc.rf.mm (Mm_t Mm.rf)))
  · have hx := eth_ix h.RS ht
    have he5 : ix x < 5 := by have := h.RS.1.2.2.2.2.2; have := hx.2; omega
    have hs : Sm M (svB (fcM M)) := Sm_svB (Sm_fc Sm.rf)
    have hR0 : RS M (svB (fcM M)) mn en := h.RS.cg hs
    have hR1 : RS M (tM (svB (fcM M)) false) mn en := hR0.mm (Mm_t Mm.rf)
    have hK := (coM_n h.DI h.CR hR1).1
    exact AG.ok (svB (fcM M)) (ndM (coM (tM (svB (fcM M)) false)) (ix x)) (v := M 0 (ix x) 4 - nI (nd M (bsg (bT M)) (ix x))) (by unfold oSpare; rw [ht, if_pos rfl, (fc_n h.DI h.CR).2.2 _ he5, hs 0 (ix x) 4 rfl]) (fun G2 => by
      unfold nSpare; rw [eth_n hR0, ht, if_neg (by decide), ndV_n h.DI h.CR hK hx.2, (hK.1.2.2.2.2.1 (ix x) hx.2).2.2.2.2.2.2.1]) (Eq.trans (T0_nd (T0_co T0.rf)) tM_0) (DM_sm h.DM hs) (h.iv ((Nsc.rf.sm hs).mm (Mm_nd (Mm_co (Mm_t Mm.rf)))))
theorem ag_purchase {M : Mem} {mn en : Nat} {G : Lng} (h : IN M mn en) : AG [xNSE] (oPurchase M G) nPurchase G := by
  cases hc : ckF M 12 0
  · exact AG.th xNSE 0 M (ms M 3 0 0 (nI 1)) rfl (by unfold oPurchase; rw [hc]; rfl) (fun G2 => by unfold nPurchase; rw [npA_n h.DI h.RS, hc]; rfl) ms_s h.DM (h.iv (Nsc.rf.mm (Mm_ms Mm.rf rfl)))
  · have hs : Sm M (fpM M) := Sm_fp Sm.rf
    have hR0 : RS M (fpM M) mn en := h.RS.cg hs
    exact AG.ok (fpM M) (puM (fpM M)) (v := bst (-1) (bP M)) (by unfold oPurchase; rw [hc, if_pos rfl, (fp_n h.DI h.CR).1, bst_2 (bP_k hc)]) (fun G2 => by
      unfold nPurchase; rw [npA_n h.DI hR0, hc, if_pos rfl, (puM_n h.DI h.CR hR0 (bP_k hc)).2.2]) (pu_0 _) (DM_sm h.DM hs) (h.iv ((Nsc.rf.sm hs).mm (Mm_pu Mm.rf)))
theorem ag_PT {M : Mem} {mn en : Nat} {G : Lng} (h : IN M mn en) : AG [xUOE, xNSE] (oPT M G) nPT G := by
  by_cases hc4 : M 2 0 3 ≤ nI 4
  · have hc2 : M 3 0 2 ≤ nI 4 := by rw [h.RS.2.1.1]; exact hc4
    cases hc : ckF M 12 0
    · exact AG.th xNSE 1 M (ms M 3 0 0 (nI 2)) rfl (by unfold oPT; rw [hc, if_pos hc4]; rfl) (fun G2 => by unfold nPT; rw [if_pos hc2, npA_n h.DI h.RS, hc]; rfl) ms_s h.DM (h.iv (Nsc.rf.mm (Mm_ms Mm.rf rfl)))
    · have hs : Sm M (tpM M) := (tp_CS h.DI h.CR).1.1
      have hR0 : RS M (tpM M) mn en := h.RS.cg hs
      have hc3 : tpM M 3 0 2 ≤ nI 4 := by rw [hR0.2.1.1]; exact hc4
      exact AG.ok (tpM M) (puM (tpM M)) (v := bst (-1) (bP M)) (by unfold oPT; rw [if_pos hc4, hc, if_pos rfl, (tp_CS h.DI h.CR).2.1, bst_2 (bP_k hc)]) (fun G2 => by
        unfold nPT; rw [if_pos hc3, npA_n h.DI hR0, hc, if_pos rfl, (puM_n h.DI h.CR hR0 (bP_k hc)).2.2]) (pu_0 _) (DM_sm h.DM hs) (h.iv ((Nsc.rf.sm hs).mm (Mm_pu Mm.rf)))
  · have hc2 : ¬ M 3 0 2 ≤ nI 4 := by rw [h.RS.2.1.1]; exact hc4
    exact AG.th xUOE 0 M (ms M 3 0 0 (nI 1)) rfl (by unfold oPT; rw [if_neg hc4]) (fun G2 => by unfold nPT; rw [if_neg hc2]; rfl) ms_s h.DM (h.iv (Nsc.rf.mm (Mm_ms Mm.rf rfl)))
theorem ag_toBuy {M : Mem} {mn en : Nat} {G : Lng} {x : Int32} (h : IN M mn en) : AG [xIOB, xNSE] (oToBuy M G x) (fun M1 G2 => nToBuy M1 G2 x) G := by
  cases ht : eth M x
  · exact AG.th xIOB 0 M (tM M true) rfl (by unfold oToBuy; rw [ht]; rfl) (fun G2 => by unfold nToBuy; rw [eth_n h.RS, ht]; rfl) tM_1 h.DM (h.iv (Nsc.rf.mm (Mm_t Mm.rf)))
  · have hx := eth_ix h.RS ht
    have he5 : ix x < 5 := by have := h.RS.1.2.2.2.2.2; have := hx.2; omega
    cases hc : ckF M 12 0
    · exact AG.th xNSE 1 M (ms (tM M false) 3 0 0 (nI 2)) rfl (by unfold oToBuy; rw [ht, hc]; rfl) (fun G2 => by unfold nToBuy; rw [eth_n h.RS, ht, npA_n h.DI (h.RS.mm (Mm_t Mm.rf)), hc]; rfl) ms_s h.DM (h.iv (Nsc.rf.mm (Mm_ms (Mm_t Mm.rf) rfl)))
    · have hs : Sm M (svB (fpM M)) := Sm_svB (Sm_fp Sm.rf)
      have hR0 : RS M (svB (fpM M)) mn en := h.RS.cg hs
      have hR1 : RS M (tM (svB (fpM M)) false) mn en := hR0.mm (Mm_t Mm.rf)
      have hK := (puM_n h.DI h.CR hR1 (bP_k hc)).1
      exact AG.ok (svB (fpM M)) (ndM (puM (tM (svB (fpM M)) false)) (ix x)) (v := nI (ms' M (bsg (bP M)) (ix x))) (by unfold oToBuy; rw [ht, if_pos rfl, hc, if_pos rfl, (fp_n h.DI h.CR).2 _ he5]) (fun G2 => by
        unfold nToBuy; rw [eth_n hR0, ht, if_neg (by decide), npA_n h.DI hR1, hc, if_pos rfl, byV_n h.DI h.CR hK hx.2]) (Eq.trans (T0_nd T0.rf) (pu_0 _)) (DM_sm h.DM hs) (h.iv ((Nsc.rf.sm hs).mm (Mm_nd (Mm_pu (Mm_t Mm.rf)))))
end Agr
