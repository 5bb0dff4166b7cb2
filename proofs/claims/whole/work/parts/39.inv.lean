/-! WHAT HOLDS BETWEEN THE LAW'S CALLS -/
section Inv
def Nsc (M M1 : Mem) : Prop := ∀ c i k, scr c k = false → scm c k = false → M1 c i k = M c i k
theorem Nsc.rf {M : Mem} : Nsc M M := fun _ _ _ _ _ => rfl
theorem Nsc.sm {M M1 M2 : Mem} (h : Nsc M M1) (hs : Sm M1 M2) : Nsc M M2 := fun c i k h1 h2 => (hs c i k h1).trans (h c i k h1 h2)
theorem Nsc.mm {M M1 M2 : Mem} (h : Nsc M M1) (hs : Mm M1 M2) : Nsc M M2 := fun c i k h1 h2 => (hs c i k h2).trans (h c i k h1 h2)
/-- one install's data; one entitlement's -/
def PI (M : Mem) (mn i : Nat) : Prop := (Rg (M 1 i 1) 4 ∧ Rg (M 1 i 4) 10 ∧ Rg (M 1 i 5) 10 ∧ Rg (M 1 i 6) 17 ∧ Rg (M 10 0 i) 4) ∧ (i < mn → RI M M i) ∧ (mn ≤ i → M 1 i 0 = 0 ∧ M 17 0 i = 0)
def PE (M : Mem) (en e : Nat) : Prop := (Rg (M 0 e 6) 17 ∧ Rg (M 0 e 4) 1000 ∧ Rg (M 0 e 7) 100) ∧ RR M M e ∧ (e < en → RE M M e) ∧ (en ≤ e → M 0 e 0 = 0)
def HD (M : Mem) (mn en t : Nat) : Prop := (M 2 0 2 = nI mn ∧ M 3 0 1 = nI mn ∧ M 2 0 4 = nI en ∧ M 3 0 3 = nI en ∧ M 3 0 2 = nI t ∧ M 2 0 3 = nI t) ∧ mn < 13 ∧ en < 6 ∧ t < 7
def IN (M : Mem) (mn en : Nat) : Prop := HD M mn en (lf M 0) ∧ (∀ i, i < 12 → PI M mn i) ∧ ∀ e, e < 5 → PE M en e
def INV (M : Mem) : Prop := ∃ mn en, IN M mn en
theorem lf_cg {M M1 : Mem} (h : ∀ i, i < 12 → (M1 1 i 0 = 0) = (M 1 i 0 = 0)) (a : Nat) : lf M1 a = lf M a := su_eq 12 (fun i hi => by simp only [h i hi])
theorem PI_cg {M M1 : Mem} {mn i : Nat} (h1 : ∀ k, k < 8 → M1 1 i k = M 1 i k) (h2 : ∀ c, 10 ≤ c → c < 18 → M1 c 0 i = M c 0 i) (h : PI M mn i) : PI M1 mn i := by
  unfold PI RI at *
  rw [h1 0 (by omega), h1 1 (by omega), h1 2 (by omega), h1 3 (by omega), h1 4 (by omega), h1 5 (by omega), h1 6 (by omega), h1 7 (by omega), h2 10 (by omega) (by omega), h2 11 (by omega) (by omega), h2 12 (by omega) (by omega), h2 13 (by omega) (by omega), h2 14 (by omega) (by omega), h2 15 (by omega) (by omega), h2 16 (by omega) (by omega), h2 17 (by omega) (by omega)]
  exact h
theorem PE_cg {M M1 : Mem} {en e : Nat} (h1 : ∀ k, k < 11 → M1 0 e k = M 0 e k) (h2 : ∀ c, 18 ≤ c → c < 29 → M1 c 0 e = M c 0 e) (h : PE M en e) : PE M1 en e := by
  unfold PE RE RR at *
  rw [h1 0 (by omega), h1 1 (by omega), h1 2 (by omega), h1 3 (by omega), h1 4 (by omega), h1 5 (by omega), h1 6 (by omega), h1 7 (by omega), h1 8 (by omega), h1 9 (by omega), h1 10 (by omega), h2 18 (by omega) (by omega), h2 19 (by omega) (by omega), h2 20 (by omega) (by omega), h2 21 (by omega) (by omega), h2 22 (by omega) (by omega), h2 23 (by omega) (by omega), h2 24 (by omega) (by omega), h2 25 (by omega) (by omega), h2 26 (by omega) (by omega), h2 27 (by omega) (by omega), h2 28 (by omega) (by omega)]
  exact h
theorem sc_1 {k : Nat} : scr 1 k = false := by simp [scr]
theorem sm_1 {k : Nat} : scm 1 k = false := by simp [scm]
theorem sc_0 {k : Nat} (h : k < 12) : scr 0 k = false := by simp [scr]; omega
theorem sm_0 {k : Nat} : scm 0 k = false := by simp [scm]
theorem sc_m {c k : Nat} (h : 10 ≤ c) : scr c k = false := by
  unfold scr
  rw [decide_eq_false (show ¬ c = 0 by omega), decide_eq_false (show ¬ c = 2 by omega), decide_eq_false (show ¬ c = 6 by omega), decide_eq_false (show ¬ c = 7 by omega), decide_eq_false (show ¬ c = 8 by omega), decide_eq_false (show ¬ c = 9 by omega)]
  rfl
theorem sm_m {c k : Nat} (h : 10 ≤ c) (h2 : c < 29) : scm c k = false := by
  unfold scm
  rw [decide_eq_false (show ¬ c = 3 by omega), decide_eq_false (show ¬ c = 29 by omega), decide_eq_false (show ¬ c = 30 by omega), decide_eq_false (show ¬ c = 31 by omega)]
  rfl
theorem IN.ns {M M1 : Mem} {mn en : Nat} (h : IN M mn en) (hs : Nsc M M1) : IN M1 mn en := by
  refine ⟨?_, fun i hi => PI_cg (fun k _ => hs 1 i k sc_1 sm_1) (fun c h1 h2 => hs c 0 i (sc_m h1) (sm_m h1 (by omega))) (h.2.1 i hi), fun e he => PE_cg (fun k hk => hs 0 e k (sc_0 (by omega)) sm_0) (fun c h1 h2 => hs c 0 e (sc_m (by omega)) (sm_m (by omega) (by omega))) (h.2.2 e he)⟩
  rw [lf_cg (fun i _ => by rw [hs 1 i 0 rfl rfl])]
  unfold HD
  rw [hs 2 0 2 rfl rfl, hs 3 0 1 rfl rfl, hs 2 0 4 rfl rfl, hs 3 0 3 rfl rfl, hs 3 0 2 rfl rfl, hs 2 0 3 rfl rfl]
  exact h.1
theorem INV.ns {M M1 : Mem} (h : INV M) (hs : Nsc M M1) : INV M1 := by
  obtain ⟨mn, en, h⟩ := h
  exact ⟨mn, en, h.ns hs⟩
theorem Rg_n {n m : Nat} (h : n < m) (hm : m ≤ 100000) : Rg (nI n) m := ⟨by rw [ixn (by omega)], by rw [ixn (by omega)]; exact h⟩
theorem IN.DI {M : Mem} {mn en : Nat} (h : IN M mn en) : DI M := by
  have h1 := h.1
  unfold HD at h1
  refine ⟨?_, ?_, ?_, fun i hi => ?_⟩
  · rw [h1.1.1]; exact Rg_n h1.2.1 (by omega)
  · rw [h1.1.2.2.2.2.2]; exact Rg_n h1.2.2.2 (by omega)
  · rw [h1.1.2.2.1]; exact Rg_n h1.2.2.1 (by omega)
  · have h2 := (h.2.1 i hi).1
    exact ⟨h2.1, h2.2.1, h2.2.2.1⟩
theorem IN.DM {M : Mem} {mn en : Nat} (h : IN M mn en) : DM M := by
  have h1 := h.1
  unfold HD at h1
  refine ⟨?_, ?_, ?_, fun i hi => (h.2.1 i hi).1.2.2.2.2⟩
  · rw [h1.1.2.1]; exact Rg_n h1.2.1 (by omega)
  · rw [h1.1.2.2.2.2.1]; exact Rg_n h1.2.2.2 (by omega)
  · rw [h1.1.2.2.2.1]; exact Rg_n h1.2.2.1 (by omega)
theorem IN.CR {M : Mem} {mn en : Nat} (h : IN M mn en) : CR M := ⟨fun i hi => (h.2.1 i hi).1.2.2.2.1, fun e he => (h.2.2 e he).1⟩
theorem IN.RS {M : Mem} {mn en : Nat} (h : IN M mn en) : RS M M mn en := by
  have h1 := h.1
  unfold HD at h1
  exact ⟨⟨h1.1.1, h1.1.2.1, h1.1.2.2.1, h1.1.2.2.2.1, h1.2.1, h1.2.2.1⟩, ⟨h1.1.2.2.2.2.1.trans h1.1.2.2.2.2.2.symm, h1.1.2.2.2.2.2⟩, fun i hi => (h.2.1 i (by omega)).2.1 hi, fun i h2 h3 => (h.2.1 i h3).2.2 h2, fun e he => (h.2.2 e (by omega)).2.2.1 he, fun e h2 h3 => (h.2.2 e h3).2.2.2 h2, fun e he => (h.2.2 e he).2.1⟩
/-- the model's side of a memory that the class has worked on -/
theorem RS.cg {C M M1 : Mem} {mn en : Nat} (h : RS C M mn en) (hs : Sm M M1) : RS C M1 mn en := by
  unfold RS RI RE RR at *
  rw [hs 3 0 1 rfl, hs 3 0 3 rfl, hs 3 0 2 rfl]
  refine ⟨h.1, h.2.1, fun i hi => ?_, fun i h1 h2 => ?_, fun e he => ?_, h.2.2.2.2.2.1, fun e he => ?_⟩
  · rw [hs 17 0 i rfl, hs 10 0 i rfl, hs 11 0 i rfl, hs 12 0 i rfl, hs 13 0 i rfl, hs 14 0 i rfl, hs 15 0 i rfl, hs 16 0 i rfl]
    exact h.2.2.1 i hi
  · rw [hs 17 0 i rfl]; exact h.2.2.2.1 i h1 h2
  · rw [hs 21 0 e rfl, hs 22 0 e rfl, hs 23 0 e rfl, hs 28 0 e rfl, hs 24 0 e rfl, hs 25 0 e rfl, hs 26 0 e rfl, hs 27 0 e rfl]
    exact h.2.2.2.2.1 e he
  · rw [hs 18 0 e rfl, hs 19 0 e rfl, hs 20 0 e rfl]
    exact h.2.2.2.2.2.2 e he
theorem btw_n {mn : Nat} (hm : mn < 13) (x : Int32) : btw x (nI 0) (nI mn - nI 1) = true ↔ Rg x mn := by
  have h1 := btw_cnt (c := nI mn) (N := 13) (Rg_n hm (by omega)) (by omega) x
  rw [ixn (by omega)] at h1
  exact h1
theorem thr_n {C M : Mem} {mn en : Nat} (h : RS C M mn en) (x : Int32) : nti M x = !thr C x := by
  have hm := h.1.2.2.2.2.1
  unfold nti thr
  rw [h.1.2.1]
  congr 1
  rw [Bool.eq_iff_iff, Bool.and_eq_true, Bool.and_eq_true, btw_n hm, decide_eq_true_eq]
  constructor
  · rintro ⟨h1, h2⟩
    rw [th_n h h1.2] at h2
    refine ⟨Rg.btw (n := 11) ⟨h1.1, by have := h1.2; omega⟩ (by omega), by simp [h2]⟩
  · rintro ⟨h1, h2⟩
    have h3 := btw_Rg h1 (by omega)
    have h4 : ¬ C 1 (ix x) 0 = 0 := by simpa using h2
    have h5 : ix x < mn := by
      by_cases hq : ix x < mn
      · exact hq
      · exact absurd (h.2.2.2.1 (ix x) (by omega) (by have := h3.2; omega)).1 h4
    exact ⟨⟨h3.1, h5⟩, by rw [th_n h h5]; exact h4⟩
theorem thr_ix {C M : Mem} {mn en : Nat} (h : RS C M mn en) {x : Int32} (ht : thr C x = true) : Rg x mn ∧ ¬ C 1 (ix x) 0 = 0 := by
  unfold thr at ht
  rw [Bool.and_eq_true] at ht
  have h3 := btw_Rg ht.1 (by omega)
  have h4 : ¬ C 1 (ix x) 0 = 0 := by simpa using ht.2
  refine ⟨⟨h3.1, ?_⟩, h4⟩
  by_cases hq : ix x < mn
  · exact hq
  · exact absurd (h.2.2.2.1 (ix x) (by omega) (by have := h3.2; omega)).1 h4
theorem eth_n {C M : Mem} {mn en : Nat} (h : RS C M mn en) (x : Int32) : nte M x = !eth C x := by
  unfold nte eth
  rw [h.1.2.2.2.1, h.1.2.2.1]
theorem eth_ix {C M : Mem} {mn en : Nat} (h : RS C M mn en) {x : Int32} (ht : eth C x = true) : Rg x en := by
  unfold eth at ht
  rw [h.1.2.2.1] at ht
  exact (btw_n (by have := h.1.2.2.2.2.2; omega) x).mp ht
/-- class and model agree at one call -/
def AG (xs : List String) (o : Oc) (n : Mem → Lng → Oc) (G : Lng) : Prop :=
  (∃ X k M1, xs[k]? = some X ∧ o = thO X M1 G ∧ ∀ G2, ∃ v M2, n M1 G2 = okO (some (.int v)) M2 G2 ∧ M2 3 0 0 = nI (k + 1) ∧ DM M1 ∧ INV M2) ∨
  (∃ v M1, o = okO (some (.int v)) M1 G ∧ ∀ G2, ∃ M2, n M1 G2 = okO (some (.int v)) M2 G2 ∧ M2 3 0 0 = nI 0 ∧ DM M1 ∧ INV M2)
theorem AG.th {xs : List String} {o : Oc} {n : Mem → Lng → Oc} {G : Lng} (X : String) (k : Nat) (M1 M2 : Mem) {v : Int32} (hX : xs[k]? = some X) (ho : o = thO X M1 G) (hn : ∀ G2, n M1 G2 = okO (some (.int v)) M2 G2) (ht : M2 3 0 0 = nI (k + 1)) (hD : DM M1) (hi : INV M2) : AG xs o n G :=
  .inl ⟨X, k, M1, hX, ho, fun G2 => ⟨v, M2, hn G2, ht, hD, hi⟩⟩
theorem AG.ok {xs : List String} {o : Oc} {n : Mem → Lng → Oc} {G : Lng} (M1 M2 : Mem) {v : Int32} (ho : o = okO (some (.int v)) M1 G) (hn : ∀ G2, n M1 G2 = okO (some (.int v)) M2 G2) (ht : M2 3 0 0 = nI 0) (hD : DM M1) (hi : INV M2) : AG xs o n G :=
  .inr ⟨v, M1, ho, fun G2 => ⟨M2, hn G2, ht, hD, hi⟩⟩
theorem tM_0 {M : Mem} : tM M false 3 0 0 = nI 0 := by unfold tM; rw [ms_s]; rfl
theorem tM_1 {M : Mem} : tM M true 3 0 0 = nI 1 := by unfold tM; rw [ms_s]; rfl
theorem DM_sm {M M1 : Mem} (h : DM M) (hs : Sm M M1) : DM M1 := by
  unfold DM
  rw [hs 3 0 1 rfl, hs 3 0 2 rfl, hs 3 0 3 rfl]
  refine ⟨h.1, h.2.1, h.2.2.1, fun i hi => ?_⟩
  rw [hs 10 0 i rfl]
  exact h.2.2.2 i hi
end Inv
