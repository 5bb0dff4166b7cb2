/-! WHAT THE CLASS'S SEARCHES FIND -/
section CRes
theorem su_0 {f : Nat → Nat} : ∀ n, (∀ i, i < n → f i = 0) → su f n = 0
  | 0, _ => rfl
  | n + 1, h => by unfold su; rw [su_0 n (fun i hi => h i (by omega)), h n (by omega)]
theorem su_add {f f2 : Nat → Nat} : ∀ n, su (fun i => f i + f2 i) n = su f n + su f2 n
  | 0 => rfl
  | n + 1 => by unfold su; rw [su_add n]; omega
def g0 : As := fun _ => 0
theorem cn_0 (M : Mem) (e h p : Nat) : cn M g0 e h p = 0 := su_0 12 (fun i _ => by
  show (if (0 : Nat) = e + 1 ∧ hl M e i = h ∧ ix (M 1 i 1) = p then 1 else 0) = 0
  rw [if_neg (fun z => by omega)])
theorem uo_0 (M : Mem) (e h : Nat) : uo M g0 e h = 0 := by
  have h1 := mxn_b (f := cn M g0 e h) (b := 0) 4 (fun p _ => by rw [cn_0]; exact Nat.le_refl _)
  unfold uo
  split <;> omega
theorem nd_0 (M : Mem) (e : Nat) : nd M g0 e = 0 := by
  unfold nd
  split
  · exact su_0 12 (fun i _ => by
      show (if (0 : Nat) = e + 1 then co M e i else 0) = 0
      rw [if_neg (by omega)])
  · exact su_0 10 (fun k _ => uo_0 M e k)
theorem ms'_0 (M : Mem) (e : Nat) : ms' M g0 e = 0 := by unfold ms'; rw [nd_0]; omega
theorem fe_of {M : Mem} {g : As} : ∀ n e, (∀ k, e ≤ k → k < e + n → ms' M g k = 0) → fe M g n e = true
  | 0, _, _ => rfl
  | n + 1, e, h => by
    unfold fe
    rw [fe_of n (e + 1) (fun k h1 h2 => h k (by omega) (by omega)), h e (by omega) (by omega)]
    rfl
theorem fe_to {M : Mem} {g : As} : ∀ n e, fe M g n e = true → ∀ k, e ≤ k → k < e + n → ms' M g k = 0
  | 0, e, _, k, h1, h2 => by omega
  | n + 1, e, h, k, h1, h2 => by
    unfold fe at h
    simp only [Bool.and_eq_true, decide_eq_true_eq] at h
    by_cases hk : k = e
    · rw [hk]; exact h.1
    · exact fe_to n (e + 1) h.2 k (by omega) (by omega)
theorem ct_0 : ct g0 = 0 := su_0 12 (fun _ _ => rfl)
theorem cst_0 (M : Mem) : cst M g0 = 0 := su_0 5 (fun e _ => by rw [ms'_0]; rfl)
theorem Ext.le {S : Sp} {E a T : Nat} {g g2 : As} (h : Ext S E a T g g2) (hz : ∀ j, a ≤ j → j < T → g j = 0) : Le g g2 := fun i => by
  rcases h i with h1 | ⟨h1, h2, _⟩
  · exact .inr h1
  · exact .inl (hz i h1 h2)
theorem imp_le {st : St} {a b : Nat} (h : imp st a = false) (hl : a ≤ b) : imp st b = false := by
  cases st with
  | none => simp [imp] at h
  | some q => simp [imp] at h ⊢; omega
theorem cim_le {st : St} {a b : Nat} (h : cim st a = false) (hl : b ≤ a) : cim st b = false := by
  cases st with
  | none => simp [cim] at h
  | some q => simp [cim] at h ⊢; omega
theorem sP_snd (M0 : Mem) (E T : Nat) : Snd (sPp M0) (sP M0 T) E T (fun a g => ∀ j, a ≤ j → j < T → g j = 0) := by
  refine ⟨fun a g st _ hI hc g2 hx => ?_, fun a g e st _ _ _ _ hk => ?_, fun g st _ hc => ?_, fun a g _ hI j h1 h2 => hI j (by omega) h2, fun a g e _ hI _ _ _ j h1 h2 => ?_⟩
  · have h1 : (!imp st (cst M0 g)) = true := hc
    have h2 : imp st (cst M0 g) = false := by simpa using h1
    show (decide (T = T) && !imp st (cst M0 g2)) = true
    rw [imp_le h2 (cst_le (hx.le hI))]
    simp
  · have h1 : true = false := hk
    cases h1
  · have h1 : (decide (T = T) && !imp st (cst M0 g)) = true := hc
    show (!imp st (cst M0 g)) = true
    simpa using h1
  · rw [ga_o (by omega)]; exact hI j (by omega) h2
theorem pr_P (M0 : Mem) (E T : Nat) : pr (sPp M0) E T 0 g0 none = pr (sP M0 T) E T 0 g0 none :=
  pr_eq (S := sPp M0) (S0 := sP M0 T) (E := E) (T := T) (I := fun a g => ∀ j, a ≤ j → j < T → g j = 0) rfl rfl rfl (fun a g st h => by
    show (decide (a = T) && _) = false
    simp [show ¬ a = T by omega]) (fun _ _ => rfl) (sP_snd M0 E T) T 0 g0 none (by omega) (fun _ _ _ => rfl)
/-- an entitlement below k fits j -/
def cfb (M : Mem) (j : Nat) : Nat → Bool
  | 0 => false
  | k + 1 => fit M k j || cfb M j k
theorem cfb_of {M : Mem} {j e : Nat} (h : fit M e j = true) : ∀ k, e < k → cfb M j k = true
  | 0, hk => by omega
  | k + 1, hk => by
    unfold cfb
    by_cases he : e = k
    · rw [← he, h]; rfl
    · rw [cfb_of h k (by omega)]; simp
theorem cf_n (M : Mem) (j : Nat) : ∀ k, ∃ n, n ≤ k ∧ cf M j k = nI n ∧ (n = 0 ↔ cfb M j k = false)
  | 0 => ⟨0, by omega, rfl, by simp [cfb]⟩
  | k + 1 => by
    have ⟨n, h1, h2, h3⟩ := cf_n M j k
    unfold cf cfb
    cases hf : fit M k j
    · exact ⟨n, by omega, by rw [if_neg (by decide)]; exact h2, by rw [h3]; simp⟩
    · exact ⟨n + 1, by omega, by rw [if_pos rfl, h2, nI_add], by simp⟩
def bx (M : Mem) (E T a : Nat) : Nat := su (fun j => if a ≤ j ∧ j < T ∧ cfb M j E = true then 1 else 0) 12
theorem sB_snd (M0 : Mem) (E T : Nat) (b : Nat → Nat) (hb : ∀ a, a ≤ T → bx M0 E T a ≤ b a) (hT : b T = 0) (hE : E ≤ 5) : Snd (sB M0 b) (sT M0 T) E T (fun a g => (∀ j, a ≤ j → j < T → g j = 0) ∧ fe M0 g 5 0 = true) := by
  refine ⟨fun a g st ha hI hc g2 hx => ?_, fun a g e st ha hI he hf hk g2 hx => ?_, fun g st hI hc => ?_, fun a g _ hI => ⟨fun j h1 h2 => hI.1 j (by omega) h2, hI.2⟩, fun a g e ha hI he hf hk => ⟨fun j h1 h2 => ?_, ?_⟩⟩
  · have h1 : (!cim st (ct g + b a)) = true := hc
    have h2 : cim st (ct g + b a) = false := by simpa using h1
    have h3 : ct g2 ≤ ct g + bx M0 E T a := by
      unfold ct bx
      rw [← su_add]
      refine su_le 12 (fun j _ => ?_)
      show (if g2 j = 0 then 0 else 1) ≤ (if g j = 0 then 0 else 1) + if a ≤ j ∧ j < T ∧ cfb M0 j E = true then 1 else 0
      rcases hx j with h4 | ⟨h4, h5, e, h6, h7, _⟩
      · rw [h4]; omega
      · rw [if_pos (⟨h4, h5, cfb_of h7 E h6⟩ : a ≤ j ∧ j < T ∧ cfb M0 j E = true)]
        split <;> omega
    show (decide (T = T) && !(fe M0 g2 5 0 && cim st (ct g2))) = true
    rw [cim_le h2 (Nat.le_trans h3 (Nat.add_le_add_left (hb a ha) _))]
    simp
  · have h1 : decide (ms' M0 (ga g a (e + 1)) e = 0) = false := hk
    have h2 : ¬ ms' M0 (ga g a (e + 1)) e = 0 := by simpa using h1
    have h3 := ms'_le (M := M0) (hx.le (fun j h1 h2 => by rw [ga_o (by omega)]; exact hI.1 j (by omega) h2)) e
    show (decide (T = T) && !(fe M0 g2 5 0 && cim st (ct g2))) = true
    cases h4 : fe M0 g2 5 0
    · simp
    · exact absurd (fe_to 5 0 h4 e (by omega) (by omega)) (by omega)
  · have h1 : (decide (T = T) && !(fe M0 g 5 0 && cim st (ct g))) = true := hc
    show (!cim st (ct g + b T)) = true
    rw [hI.2] at h1
    rw [hT]
    simpa using h1
  · rw [ga_o (by omega)]; exact hI.1 j (by omega) h2
  · have h1 : decide (ms' M0 (ga g a (e + 1)) e = 0) = true := hk
    have h2 := fe_to 5 0 hI.2
    refine fe_of 5 0 (fun k _ hk2 => ?_)
    by_cases hke : k = e
    · rw [hke]; simpa using h1
    · have h3 := h2 k (by omega) hk2
      unfold ms' at h3 ⊢
      rw [nd_o (by rw [hI.1 a (Nat.le_refl _) ha]; omega) (by omega)]
      exact h3
theorem pr_T (M0 : Mem) (E T : Nat) (b : Nat → Nat) (hb : ∀ a, a ≤ T → bx M0 E T a ≤ b a) (hT : b T = 0) (hE : E ≤ 5) : pr (sB M0 b) E T 0 g0 none = pr (sT M0 T) E T 0 g0 none :=
  pr_eq (S := sB M0 b) (S0 := sT M0 T) (E := E) (T := T) (I := fun a g => (∀ j, a ≤ j → j < T → g j = 0) ∧ fe M0 g 5 0 = true) rfl rfl rfl (fun a g st h => by
    show (decide (a = T) && _) = false
    simp [show ¬ a = T by omega]) (fun _ _ => rfl) (sB_snd M0 E T b hb hT hE) T 0 g0 none (by omega) ⟨fun _ _ _ => rfl, fe_of 5 0 (fun k _ _ => ms'_0 M0 k)⟩
/-! where they begin -/
theorem clSG_v {M : Mem} {c i k : Nat} : ∀ n, itn clSG n M c i k = if (c = 6 ∨ c = 7) ∧ i = 0 ∧ k < n then -1 else M c i k
  | 0 => by rw [if_neg (by omega)]; rfl
  | n + 1 => by
    show ms (ms (itn clSG n M) 6 0 n (-1)) 7 0 n (-1) c i k = _
    unfold ms
    rw [clSG_v n]
    by_cases h1 : c = 7 ∧ i = 0 ∧ k = n
    · rw [if_pos h1, if_pos (by omega)]
    · rw [if_neg h1]
      by_cases h2 : c = 6 ∧ i = 0 ∧ k = n
      · rw [if_pos h2, if_pos (by omega)]
      · rw [if_neg h2]
        by_cases h3 : (c = 6 ∨ c = 7) ∧ i = 0 ∧ k < n
        · rw [if_pos h3, if_pos (by omega)]
        · rw [if_neg h3, if_neg (by omega)]
theorem clsG_v {M : Mem} {c i k : Nat} : ∀ n, itn clsG n M c i k = if (c = 9 ∧ i < n ∧ k < 40) ∨ (c = 0 ∧ i < n ∧ k = 12) then nI 0 else M c i k
  | 0 => by rw [if_neg (by omega)]; rfl
  | n + 1 => by
    show ms (zf (itn clsG n M) n 40) 0 n 12 (nI 0) c i k = _
    unfold ms zf
    rw [clsG_v n]
    by_cases h1 : c = 0 ∧ i = n ∧ k = 12
    · rw [if_pos h1, if_pos (by omega)]
    · rw [if_neg h1]
      by_cases h2 : c = 9 ∧ i = n ∧ k < 40
      · rw [if_pos h2, if_pos (by omega)]
      · rw [if_neg h2]
        by_cases h3 : (c = 9 ∧ i < n ∧ k < 40) ∨ (c = 0 ∧ i < n ∧ k = 12)
        · rw [if_pos h3, if_pos (by omega)]
        · rw [if_neg h3, if_neg (by omega)]
theorem CN_0 {M0 M : Mem} {e : Nat} (he : e < 5) : CN M0 (cls M) g0 e := by
  unfold cls
  refine ⟨fun h p h1 h2 _ => ?_, ?_⟩
  · rw [clsG_v, if_pos (by omega), cn_0]
  · rw [clsG_v, if_pos (by omega), nd_0]
theorem clS_CS {M : Mem} {z : Int32} : CS z (fun a => M 8 0 a) M (clS M z) g0 none := by
  refine ⟨⟨Sm_clS Sm.rf, fun i hi => ?_, fun e he => ?_⟩, ms_s, fun i hi => ?_, fun q hq => (by cases hq), fun a ha => ?_⟩
  · unfold clS cls
    rw [ms_o (by omega), clsG_v, if_neg (by omega), clSG_v, if_pos (by omega)]
    rfl
  · exact CN_o (CN_0 (M0 := M) (M := itn clSG 12 M) he) (fun k => ms_o (by omega)) (ms_o (by omega)) rfl rfl
  · unfold clS cls
    rw [ms_o (by omega), clsG_v, if_neg (by omega), clSG_v, if_pos (by omega)]
    rfl
  · unfold clS cls
    rw [ms_o (by omega), clsG_v, if_neg (by omega), clSG_v, if_neg (by omega)]
theorem bx_st {M : Mem} {E T a : Nat} (ha : a < T) (h12 : T ≤ 12) : bx M E T a = bx M E T (a + 1) + if cfb M a E = true then 1 else 0 := by
  have h1 := su_ch (f := fun j => if a + 1 ≤ j ∧ j < T ∧ cfb M j E = true then 1 else 0) (f2 := fun j => if a ≤ j ∧ j < T ∧ cfb M j E = true then 1 else 0) (k := a) (fun j hj => by
    have : (a ≤ j) = (a + 1 ≤ j) := propext (by omega)
    simp only [this]) 12 (by omega)
  rw [if_neg (by omega)] at h1
  have h2 : (if a ≤ a ∧ a < T ∧ cfb M a E = true then 1 else 0) = if cfb M a E = true then 1 else 0 := by
    simp [ha]
  rw [h2] at h1
  unfold bx
  omega
theorem bx_T {M : Mem} {E T a : Nat} (ha : T ≤ a) : bx M E T a = 0 := su_0 12 (fun j _ => by rw [if_neg (by omega)])
theorem bx_b {M : Mem} {E T a : Nat} : bx M E T a ≤ 12 := su_b (b := 1) 12 (fun i _ => by
  show (if a ≤ i ∧ i < T ∧ cfb M i E = true then 1 else 0) ≤ 1
  split <;> omega)
theorem cvG_8 {M A : Mem} (hs : Sm M A) (h0 : A 8 0 12 = nI 0) : ∀ n, n ≤ 12 → (∀ c i k, c ≠ 8 → itn cvG n A c i k = A c i k) ∧ ∀ a, a < 13 → 12 - n ≤ a → itn cvG n A 8 0 a = nI (bx M 5 12 a)
  | 0, _ => ⟨fun _ _ _ _ => rfl, fun a h1 h2 => by rw [bx_T (by omega), show a = 12 by omega]; exact h0⟩
  | n + 1, hn => by
    have ⟨h1, h2⟩ := cvG_8 hs h0 n (by omega)
    refine ⟨fun c i k hc => ?_, fun a ha hn2 => ?_⟩
    · show ms (itn cvG n A) 8 0 (11 - n) _ c i k = _
      rw [ms_o (by omega)]; exact h1 c i k hc
    · show ms (itn cvG n A) 8 0 (11 - n) (itn cvG n A 8 0 (11 - n + 1) + (if cf (itn cvG n A) (11 - n) 5 ≤ 0 then nI 0 else nI 1)) 8 0 a = _
      by_cases hk : a = 11 - n
      · have hsm : Sm M (itn cvG n A) := Sm_cv hs
        have ⟨m, h3, h4, h5⟩ := cf_n M (11 - n) 5
        rw [hk, ms_s, h2 (11 - n + 1) (by omega) (by omega), cf_sm hsm, h4, bx_st (M := M) (E := 5) (T := 12) (a := 11 - n) (by omega) (by omega), ← nI_add]
        congr 1
        simp only [le0_n (show m < 2 ^ 31 by omega), h5]
        cases cfb M (11 - n) 5 <;> simp
      · rw [ms_o (by omega)]; exact h2 a ha (by omega)
theorem cv_CS {M : Mem} : CS (-1) (fun a => nI (bx M 5 12 a)) M (itn cvG 12 (ms (clS M (-1)) 8 0 12 (nI 0))) g0 none := by
  have h := clS_CS (M := M) (z := -1)
  have ⟨h1, h2⟩ := cvG_8 (M := M) (A := ms (clS M (-1)) 8 0 12 (nI 0)) (Sm_ms h.1.1 rfl) ms_s 12 (by omega)
  have h3 : ∀ c i k, c ≠ 8 → itn cvG 12 (ms (clS M (-1)) 8 0 12 (nI 0)) c i k = clS M (-1) c i k := fun c i k hc => by rw [h1 c i k hc, ms_o (by omega)]
  refine ⟨⟨Sm_cv (Sm_ms h.1.1 rfl), fun i hi => ?_, fun e he => CN_o (h.1.2.2 e he) (fun k => h3 _ _ _ (by omega)) (h3 _ _ _ (by omega)) rfl rfl⟩, ?_, fun i hi => ?_, fun q hq => (by cases hq), fun a ha => h2 a ha (by omega)⟩
  · rw [h3 _ _ _ (by omega)]; exact h.1.2.1 i hi
  · rw [h3 _ _ _ (by omega)]; exact h.2.1
  · rw [h3 _ _ _ (by omega)]; exact h.2.2.1 i hi
/-- the best coverage; the cheapest purchase -/
def bT (M : Mem) : St := pr (sT M 12) 5 12 0 g0 none
def bP (M : Mem) : St := pr (sP M 12) 5 12 0 g0 none
theorem fc_CS {M : Mem} (hD : DI M) (hC : CR M) : CS (-1) (fun a => nI (bx M 5 12 a)) M (fcM M) g0 (bT M) := by
  have h := sc_s hD hC (b := bx M 5 12) (fun _ => bx_b) 12 0 _ g0 none (by omega) (fun _ _ _ => rfl) cv_CS
  rw [ct_0, pr_T M 5 12 (bx M 5 12) (fun _ _ => Nat.le_refl _) (bx_T (Nat.le_refl _)) (by omega)] at h
  exact h
theorem tc_CS {M : Mem} (hD : DI M) (hC : CR M) : CS (-1) (fun a => M 8 0 a) M (tcM M) g0 (bT M) :=
  tc_s hD hC 12 0 _ g0 none (by omega) (fun _ _ _ => rfl) (fun _ _ => by show (0 : Nat) < 6; omega) clS_CS
theorem fp_CS {M : Mem} (hD : DI M) (hC : CR M) : CS 1000000 (fun a => M 8 0 a) M (fpM M) g0 (bP M) := by
  have h := sp_s hD hC 12 0 _ g0 none (by omega) (fun _ _ _ => rfl) (clS_CS (M := M) (z := 1000000))
  rw [cst_0, pr_P M 5 12] at h
  exact h
theorem tp_CS {M : Mem} (hD : DI M) (hC : CR M) : CS 1000000 (fun a => M 8 0 a) M (tpM M) g0 (bP M) :=
  tpu_s hD hC 12 0 _ g0 none (by omega) (fun _ _ _ => rfl) clS_CS
end CRes
