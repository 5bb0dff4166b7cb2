/-! CLASS AND MODEL: the same data; the model's numbers are the class's -/
section MSim
def RI (C M : Mem) (i : Nat) : Prop := ((C 1 i 0 = 0) ↔ ¬ M 17 0 i = 0) ∧ M 10 0 i = C 1 i 1 ∧ M 11 0 i = C 1 i 2 ∧ M 12 0 i = C 1 i 3 ∧ M 13 0 i = C 1 i 4 ∧ M 14 0 i = C 1 i 5 ∧ M 15 0 i = C 1 i 6 ∧ M 16 0 i = C 1 i 7
def RE (C M : Mem) (e : Nat) : Prop := Rg (C 0 e 0) 16 ∧ (C 0 e 3 = nI 100 ∨ C 0 e 3 = nI 117 ∨ C 0 e 3 = nI 99) ∧ M 21 0 e = C 0 e 0 ∧ M 22 0 e = C 0 e 1 ∧ M 23 0 e = C 0 e 2 ∧ M 28 0 e = C 0 e 3 ∧ M 24 0 e = C 0 e 4 ∧ M 25 0 e = C 0 e 5 ∧ M 26 0 e = C 0 e 6 ∧ M 27 0 e = C 0 e 7
def RR (C M : Mem) (e : Nat) : Prop := M 18 0 e = C 0 e 8 ∧ M 19 0 e = C 0 e 9 ∧ M 20 0 e = C 0 e 10
/-- how many are there from a on -/
def lf (C : Mem) (a : Nat) : Nat := su (fun j => if a ≤ j ∧ ¬ C 1 j 0 = 0 then 1 else 0) 12
def RS (C M : Mem) (mn en : Nat) : Prop := (C 2 0 2 = nI mn ∧ M 3 0 1 = nI mn ∧ C 2 0 4 = nI en ∧ M 3 0 3 = nI en ∧ mn < 13 ∧ en < 6) ∧ (M 3 0 2 = C 2 0 3 ∧ C 2 0 3 = nI (lf C 0)) ∧
  (∀ i, i < mn → RI C M i) ∧ (∀ i, mn ≤ i → i < 12 → C 1 i 0 = 0 ∧ M 17 0 i = 0) ∧ (∀ e, e < en → RE C M e) ∧ (∀ e, en ≤ e → e < 5 → C 0 e 0 = 0) ∧ ∀ e, e < 5 → RR C M e
theorem RS.mm {C M M1 : Mem} {mn en : Nat} (h : RS C M mn en) (hs : Mm M M1) : RS C M1 mn en := by
  unfold RS RI RE RR at *
  rw [hs 3 0 1 rfl, hs 3 0 3 rfl, hs 3 0 2 rfl]
  refine ⟨h.1, h.2.1, fun i hi => ?_, fun i h1 h2 => ?_, fun e he => ?_, h.2.2.2.2.2.1, fun e he => ?_⟩
  · rw [hs 17 0 i rfl, hs 10 0 i rfl, hs 11 0 i rfl, hs 12 0 i rfl, hs 13 0 i rfl, hs 14 0 i rfl, hs 15 0 i rfl, hs 16 0 i rfl]
    exact h.2.2.1 i hi
  · rw [hs 17 0 i rfl]; exact h.2.2.2.1 i h1 h2
  · rw [hs 21 0 e rfl, hs 22 0 e rfl, hs 23 0 e rfl, hs 28 0 e rfl, hs 24 0 e rfl, hs 25 0 e rfl, hs 26 0 e rfl, hs 27 0 e rfl]
    exact h.2.2.2.2.1 e he
  · rw [hs 18 0 e rfl, hs 19 0 e rfl, hs 20 0 e rfl]
    exact h.2.2.2.2.2.2 e he
theorem bit_n : ∀ (a : Fin 16) (b : Fin 4), ((nI a.val &&& (nI 1 <<< (nI b.val &&& 31))) = 0) ↔ isS (nI a.val) b.val = false := by decide +kernel
theorem mis_n {C M : Mem} {mn en e i : Nat} (hD : DI C) (h : RS C M mn en) (hi : i < mn) (he : e < en) : mim M e i = mis C e i := by
  have h1 := h.2.2.1 i hi
  have h2 := h.2.2.2.2.1 e he
  have h3 := h.2.2.2.2.2.2 e (by have := h.1.2.2.2.2.2; omega)
  have h4 := (hD.2.2.2 i (by have := h.1.2.2.2.2.1; omega)).1
  have hb := bit_n ⟨ix (C 0 e 0), h2.1.2⟩ ⟨ix (C 1 i 1), h4.2⟩
  simp only [← h2.1.1, ← h4.1] at hb
  unfold mim mis
  rw [h2.2.2.1, h1.2.1, h2.2.2.2.2.2.2.2.1, h1.2.2.2.2.2.2.2, h2.2.2.2.2.1, h1.2.2.2.1, h3.1, h2.2.2.2.1, h1.2.2.1, h3.2.1]
  by_cases hz : isS (C 0 e 0) (ix (C 1 i 1)) = false
  · rw [if_pos hz, if_pos (hb.mpr hz)]
  · rw [if_neg hz, if_neg (fun z => hz (hb.mp z))]
theorem th_n {C M : Mem} {mn en i : Nat} (h : RS C M mn en) (hi : i < mn) : (M 17 0 i = 0) = ¬ C 1 i 0 = 0 := by
  have h1 := (h.2.2.1 i hi).1
  by_cases h2 : M 17 0 i = 0
  · simp only [h2, not_true] at h1
    simp [h2, h1]
  · simp only [h2, not_false_eq_true, iff_true] at h1
    simp [h2, h1]
theorem fim_n {C M : Mem} {mn en e i : Nat} (hD : DI C) (h : RS C M mn en) (hi : i < mn) (he : e < en) (ht : M 17 0 i = 0) : fim M e i = fit C e i := by
  rw [th_n h hi] at ht
  unfold fim fit
  rw [mis_n hD h hi he]
  simp [ht]
theorem fit_e {C : Mem} {e i : Nat} (h : C 0 e 0 = 0) : fit C e i = false := by
  have hz : ∀ x : Int32, (0 : Int32) &&& x = 0 := fun x => Int32.zero_and
  unfold fit mis
  rw [h, hz, if_pos rfl]
  have : ¬ nI 112 = nI 45 := by decide
  simp [this]
theorem fit_t {C : Mem} {e i : Nat} (h : fit C e i = true) : ¬ C 1 i 0 = 0 := fun z => by
  unfold fit at h
  simp [z] at h
theorem RS.Fe {C M : Mem} {mn en : Nat} (h : RS C M mn en) {e i : Nat} (h1 : en ≤ e) (h2 : e < 5) : fit C e i = false := fit_e (h.2.2.2.2.2.1 e h1 h2)
theorem RS.Fi {C M : Mem} {mn en : Nat} (h : RS C M mn en) {e i : Nat} (h1 : mn ≤ i) (h2 : i < 12) : fit C e i = false := by
  cases hf : fit C e i
  · rfl
  · exact absurd (h.2.2.2.1 i h1 h2).1 (fit_t hf)
theorem su_up {f : Nat → Nat} {n : Nat} : ∀ m, n ≤ m → (∀ i, n ≤ i → i < m → f i = 0) → su f m = su f n
  | 0, h, _ => by rw [show n = 0 by omega]
  | m + 1, h, hf => by
    by_cases e : n = m + 1
    · rw [e]
    · have ih := su_up (f := f) (n := n) m (by omega) (fun i h1 h2 => hf i h1 (by omega))
      conv => lhs; unfold su
      rw [ih, hf m (by omega) (by omega)]
      omega
theorem dv_e : ∀ (a : Fin 6) (b : Fin 5), (dv a.val = nI b.val) ↔ a.val = b.val + 1 := by decide
/-- the model's given is g -/
def KA (C M : Mem) (mn en : Nat) (g : As) : Prop := RS C M mn en ∧ GF C en mn g ∧ ∀ i, i < mn → M 17 0 i = 0 → M 29 0 i = dv (g i)
theorem GF.b2 {C : Mem} {en mn : Nat} {g : As} (h : GF C en mn g) (he : en < 6) (i : Nat) : g i < 6 := by
  rcases h i with h1 | ⟨_, e, h2, _, h3⟩ <;> omega
theorem KA.is {C M : Mem} {mn en : Nat} {g : As} (h : KA C M mn en g) {e i : Nat} (he : e < 5) (hi : i < mn) : (M 17 0 i = 0 ∧ M 29 0 i = nI e) = (g i = e + 1) := by
  have h1 := dv_e ⟨g i, h.2.1.b2 h.1.1.2.2.2.2.2 i⟩ ⟨e, he⟩
  by_cases ht : M 17 0 i = 0
  · rw [h.2.2 i hi ht]
    simp only [ht, true_and]
    exact propext h1
  · have h2 : g i = 0 := by
      rcases h.2.1 i with h3 | ⟨_, e2, _, h4, _⟩
      · exact h3
      · have h5 := fit_t h4
        rw [← th_n h.1 hi] at h5
        exact absurd h5 ht
    simp only [ht, false_and, h2]
    exact propext ⟨fun z => z.elim, fun z => by omega⟩
theorem KA.z {C M : Mem} {mn en : Nat} {g : As} (h : KA C M mn en g) {i : Nat} (hi : mn ≤ i) : g i = 0 := by
  rcases h.2.1 i with h3 | ⟨h4, _⟩
  · exact h3
  · omega
theorem nsC_n {C M : Mem} {mn en e : Nat} {g : As} (hC : CR C) (h : KA C M mn en g) (he : e < en) : ∀ k, k ≤ mn → nsC M e k = nI (su (fun i => if g i = e + 1 then co C e i else 0) k)
  | 0, _ => rfl
  | k + 1, hk => by
    have he6 := h.1.1.2.2.2.2.2
    have hm := h.1.1.2.2.2.2.1
    unfold nsC su
    rw [nsC_n hC h he k (by omega)]
    simp only [h.is (show e < 5 by omega) (show k < mn by omega)]
    by_cases hg : g k = e + 1
    · rw [if_pos hg, if_pos hg, ← nI_add]
      congr 1
      have h1 := hC.1 k (by omega)
      have h2 := (hC.2 e (by omega)).1
      have h3 := h1.2
      have h4 := h2.2
      rw [(h.1.2.2.1 k (by omega)).2.2.2.2.2.2.1, (h.1.2.2.2.2.1 e he).2.2.2.2.2.2.2.2.1]
      unfold co
      rw [h1.1, h2.1]
      generalize ix (C 1 k 6) = a at h3
      generalize ix (C 0 e 6) = b at h4
      rw [show ix (nI a) = a from ixn (by omega), show ix (nI b) = b from ixn (by omega)]
      by_cases hl : a ≤ b
      · rw [if_pos ((nI_leI (by omega) (by omega)).mpr hl), Nat.max_eq_right (by omega)]
      · rw [if_neg (fun z => hl ((nI_leI (by omega) (by omega)).mp z)), Nat.max_eq_left (by omega)]
    · rw [if_neg hg, if_neg hg]
      rfl
/-- alike but for the counts -/
def S31 (M M1 : Mem) : Prop := ∀ c i k, c ≠ 31 → M1 c i k = M c i k
theorem S31.mm {M M1 : Mem} (h : S31 M M1) : Mm M M1 := fun c i k hs => h c i k (fun z => by rw [z] at hs; simp [scm] at hs)
theorem KA.s31 {C M M1 : Mem} {mn en : Nat} {g : As} (h : KA C M mn en g) (hs : S31 M M1) : KA C M1 mn en g := ⟨h.1.mm hs.mm, h.2.1, fun i hi ht => by rw [hs 29 0 i (by decide)]; rw [hs 17 0 i (by decide)] at ht; exact h.2.2 i hi ht⟩
theorem zcG_n {M : Mem} : ∀ n, S31 M (itn zcG n M) ∧ ∀ p, p < n → itn zcG n M 31 0 p = nI 0
  | 0 => ⟨fun _ _ _ _ => rfl, fun p hp => by omega⟩
  | n + 1 => by
    have ⟨h1, h2⟩ := zcG_n (M := M) n
    refine ⟨fun c i k hc => ?_, fun p hp => ?_⟩
    · show ms (itn zcG n M) 31 0 n (nI 0) c i k = _
      rw [ms_o (by omega)]; exact h1 c i k hc
    · show ms (itn zcG n M) 31 0 n (nI 0) 31 0 p = _
      by_cases h : p = n
      · rw [h, ms_s]
      · rw [ms_o (by omega)]; exact h2 p (by omega)
theorem gaG_n {C M : Mem} {mn en e h : Nat} {g : As} (hD : DI C) (hK : KA C M mn en g) (he : e < en) (h9 : ¬ C 0 e 3 = nI 99) (hh : h < 10) (hz : ∀ p, p < 4 → M 31 0 p = nI 0) : ∀ k, k ≤ mn → S31 M (itn (gaG (nI e) (nI h) (if C 0 e 3 = nI 117 then nI 1 else nI 0)) k M) ∧ ∀ p, p < 4 → itn (gaG (nI e) (nI h) (if C 0 e 3 = nI 117 then nI 1 else nI 0)) k M 31 0 p = nI (su (fun i => if g i = e + 1 ∧ hl C e i = h ∧ ix (C 1 i 1) = p then 1 else 0) k)
  | 0, _ => ⟨fun _ _ _ _ => rfl, fun p hp => hz p hp⟩
  | k + 1, hk => by
    have ⟨h1, h2⟩ := gaG_n hD hK he h9 hh hz k (by omega)
    have he6 := hK.1.1.2.2.2.2.2
    have hm := hK.1.1.2.2.2.2.1
    show S31 M (gaG (nI e) (nI h) _ k (itn (gaG (nI e) (nI h) _) k M)) ∧ ∀ p, p < 4 → gaG (nI e) (nI h) _ k (itn (gaG (nI e) (nI h) _) k M) 31 0 p = _
    generalize hB : itn (gaG (nI e) (nI h) (if C 0 e 3 = nI 117 then nI 1 else nI 0)) k M = B at h1 h2
    have hr := hK.1.2.2.1 k (by omega)
    have hDk := hD.2.2.2 k (by omega)
    have hcond : (B 17 0 k = 0 ∧ B 29 0 k = nI e ∧ (if (if C 0 e 3 = nI 117 then nI 1 else nI 0) = 0 then B 13 0 k else B 14 0 k) = nI h) = (g k = e + 1 ∧ hl C e k = h) := by
      rw [h1 17 0 k (by decide), h1 29 0 k (by decide), h1 13 0 k (by decide), h1 14 0 k (by decide), ← and_assoc, hK.is (show e < 5 by omega) (show k < mn by omega), hr.2.2.2.2.1, hr.2.2.2.2.2.1]
      congr 1
      have hx : ∀ x : Int32, Rg x 10 → (x = nI h) = (ix x = h) := fun x hx => propext ⟨fun z => by rw [z]; exact ixn (by omega), fun z => by rw [hx.1, z]⟩
      have n1 : ¬ nI 1 = 0 := by decide
      have n2 : ¬ nI 117 = nI 100 := by decide
      unfold hl
      rcases (hK.1.2.2.2.2.1 e he).2.1 with hm | hm | hm
      · rw [hm, if_neg (show ¬ nI 100 = nI 117 by decide), if_pos (show nI 0 = 0 from rfl), if_pos rfl]
        exact hx _ hDk.2.1
      · rw [hm, if_pos rfl, if_neg n1, if_neg n2]
        exact hx _ hDk.2.2
      · exact absurd hm h9
    unfold gaG
    simp only [hcond]
    have hq : B 10 0 k = C 1 k 1 := by rw [h1 10 0 k (by decide)]; exact hr.2.1
    rw [hq]
    by_cases hg : g k = e + 1 ∧ hl C e k = h
    · rw [if_pos hg]
      refine ⟨fun c i j hc => by rw [ms_o (by omega)]; exact h1 c i j hc, fun p hp => ?_⟩
      unfold su
      by_cases hpp : ix (C 1 k 1) = p
      · rw [if_pos ⟨hg.1, hg.2, hpp⟩, hpp, ms_s, h2 p hp, nI_add]
      · rw [if_neg (fun z => hpp z.2.2), ms_o (by omega), h2 p hp]
        rfl
    · rw [if_neg hg]
      refine ⟨h1, fun p hp => ?_⟩
      unfold su
      rw [if_neg (fun z => hg ⟨z.1, z.2.1⟩), h2 p hp]
      rfl
theorem KA.mn {C M : Mem} {mn en : Nat} {g : As} (h : KA C M mn en g) : ix (M 3 0 1) = mn := by rw [h.1.1.2.1]; exact ixn (by have := h.1.1.2.2.2.2.1; omega)
theorem KA.en {C M : Mem} {mn en : Nat} {g : As} (h : KA C M mn en g) : ix (M 3 0 3) = en := by rw [h.1.1.2.2.2.1]; exact ixn (by have := h.1.1.2.2.2.2.2; omega)
theorem gr_n {C M : Mem} {mn en e h : Nat} {g : As} (hD : DI C) (hK : KA C M mn en g) (he : e < en) (h9 : ¬ C 0 e 3 = nI 99) (hh : h < 10) : S31 M (ndG e h M) ∧ ∀ p, p < 4 → ndG e h M 31 0 p = nI (cn C g e h p) := by
  have ⟨h1, h2⟩ := zcG_n (M := M) 4
  have hK2 := hK.s31 h1
  have ⟨h3, h4⟩ := gaG_n hD hK2 he h9 hh h2 mn (Nat.le_refl _)
  have hm := hK.1.1.2.2.2.2.1
  have hM : M 28 0 e = C 0 e 3 := (hK.1.2.2.2.2.1 e he).2.2.2.2.2.1
  unfold ndG grM
  rw [hK.mn, hM]
  refine ⟨fun c i k hc => (h3 c i k hc).trans (h1 c i k hc), fun p hp => ?_⟩
  rw [h4 p hp]
  unfold cn
  rw [su_up (n := mn) 12 (by omega) (fun i h1 _ => by rw [hK.z h1, if_neg (by omega)])]
theorem mxc_n {A : Mem} {f : Nat → Nat} (hf : ∀ p, p < 4 → A 31 0 p = nI (f p)) (hb : ∀ p, f p ≤ 12) : ∀ n, n ≤ 4 → mxc A n = nI (mxn f n)
  | 0, _ => rfl
  | n + 1, hn => by
    have ih := mxc_n hf hb n (by omega)
    have h1 := mxn_b (f := f) (b := 12) n (fun i _ => hb i)
    have h2 := hb n
    unfold mxc mxn
    rw [hf n (by omega), ih]
    by_cases h3 : f n ≤ mxn f n
    · rw [if_pos ((nI_leI (by omega) (by omega)).mpr h3), Nat.max_eq_left (by omega)]
    · rw [if_neg (fun z => h3 ((nI_leI (by omega) (by omega)).mp z)), Nat.max_eq_right (by omega)]
theorem ndS_n {C M : Mem} {mn en e : Nat} {g : As} (hD : DI C) (hK : KA C M mn en g) (he : e < en) (h9 : ¬ C 0 e 3 = nI 99) : ∀ k, k ≤ 10 → S31 M (itn (ndG e) k M) ∧ ndS M e k = nI (su (uo C g e) k)
  | 0, _ => ⟨fun _ _ _ _ => rfl, rfl⟩
  | k + 1, hk => by
    have ⟨h1, h2⟩ := ndS_n hD hK he h9 k (by omega)
    have ⟨h3, h4⟩ := gr_n (h := k) hD (hK.s31 h1) he h9 (by omega)
    have he6 := hK.1.1.2.2.2.2.2
    have h5 : S31 M (itn (ndG e) (k + 1) M) := fun c i j hc => (h3 c i j hc).trans (h1 c i j hc)
    refine ⟨h5, ?_⟩
    unfold ndS su
    rw [h2, ← nI_add]
    congr 1
    have h6 := mxn_b (f := cn C g e k) (b := 12) 4 (fun p _ => cn_b C g e k p)
    unfold vf uo
    rw [mxc_n (A := itn (ndG e) (k + 1) M) (f := cn C g e k) h4 (fun p => cn_b C g e k p) 4 (by omega), h5 28 0 e (by decide), h5 20 0 e (by decide), (hK.1.2.2.2.2.1 e he).2.2.2.2.2.1, (hK.1.2.2.2.2.2.2 e (by omega)).2.2]
    split
    · exact half_n ⟨_, Nat.lt_succ_of_le h6⟩
    · rfl
theorem ndM_s {C M : Mem} {mn en e : Nat} {g : As} (hD : DI C) (hK : KA C M mn en g) (he : e < en) : S31 M (ndM M e) := by
  unfold ndM
  split
  · exact fun _ _ _ _ => rfl
  · rename_i h9
    rw [(hK.1.2.2.2.2.1 e he).2.2.2.2.2.1] at h9
    exact (ndS_n hD hK he h9 10 (by omega)).1
theorem ndV_n {C M : Mem} {mn en e : Nat} {g : As} (hD : DI C) (hC : CR C) (hK : KA C M mn en g) (he : e < en) : ndV M e = nI (nd C g e) := by
  have hm := hK.1.1.2.2.2.2.1
  unfold ndV nd
  rw [(hK.1.2.2.2.2.1 e he).2.2.2.2.2.1, hK.mn]
  split
  · rw [nsC_n hC hK he mn (Nat.le_refl _), su_up (n := mn) 12 (by omega) (fun i h1 _ => by rw [hK.z h1, if_neg (by omega)])]
  · rename_i h9
    exact (ndS_n hD hK he h9 10 (by omega)).2
theorem sb_le {n u : Nat} (hn : n < 1000) (hu : u < 1000) : (nI n - nI u ≤ 0) = (n - u = 0) := by
  by_cases h : u ≤ n
  · rw [sub_n h]
    exact le0_n (by omega)
  · have h5 : nI n - nI u = -(nI (u - n)) := by
      have h6 := sub_n (n := u) (u := n) (by omega)
      grind
    rw [h5]
    have h7 : ∀ k : Fin 1000, -(nI k.val) ≤ 0 := by decide +kernel
    have h8 := h7 ⟨u - n, by omega⟩
    exact propext ⟨fun _ => by omega, fun _ => h8⟩
theorem byV_n {C M : Mem} {mn en e : Nat} {g : As} (hD : DI C) (hC : CR C) (hK : KA C M mn en g) (he : e < en) : byV M e = nI (ms' C g e) := by
  have he6 := hK.1.1.2.2.2.2.2
  have h1 := (hC.2 e (by omega)).2.1
  have h2 := nd_b (g := g) (e := e) hC (by omega)
  have h3 := h1.2
  unfold byV ms' un
  rw [ndV_n hD hC hK he, ndM_s hD hK he 24 0 e (by decide), (hK.1.2.2.2.2.1 e he).2.2.2.2.2.2.1]
  rw [h1.1]
  generalize ix (C 0 e 4) = u at *
  rw [ixn (by omega)]
  simp only [sb_le (show nd C g e < 1000 by omega) (show u < 1000 by omega)]
  by_cases h : nd C g e - u = 0
  · rw [if_pos h, h]
  · rw [if_neg h, sub_n (by omega)]
theorem csG_n {C M : Mem} {mn en : Nat} {g : As} (hD : DI C) (hC : CR C) (hK : KA C M mn en g) : ∀ k, k ≤ en → S31 M (itn csG k M) ∧ csV M k = nI (su (fun e => ix (C 0 e 7) * ms' C g e) k)
  | 0, _ => ⟨fun _ _ _ _ => rfl, rfl⟩
  | k + 1, hk => by
    have ⟨h1, h2⟩ := csG_n hD hC hK k (by omega)
    have he6 := hK.1.1.2.2.2.2.2
    have hK2 := hK.s31 h1
    refine ⟨fun c i j hc => (ndM_s hD hK2 (e := k) (by omega) c i j hc).trans (h1 c i j hc), ?_⟩
    unfold csV su
    rw [h2, h1 27 0 k (by decide), (hK.1.2.2.2.2.1 k (by omega)).2.2.2.2.2.2.2.2.2, byV_n hD hC hK2 (by omega), ← nI_add, ← nI_mu, ← (hC.2 k (by omega)).2.2.1]
theorem nd_z {C : Mem} {g : As} {e : Nat} (h : ∀ i, g i ≠ e + 1) : nd C g e = 0 := by
  have h1 : ∀ k p, cn C g e k p = 0 := fun k p => su_0 12 (fun i _ => by rw [if_neg (fun z => h i z.1)])
  unfold nd
  split
  · exact su_0 12 (fun i _ => by rw [if_neg (h i)])
  · refine su_0 10 (fun k _ => ?_)
    have h2 := mxn_b (f := cn C g e k) (b := 0) 4 (fun p _ => by rw [h1]; exact Nat.le_refl _)
    unfold uo
    split <;> omega
theorem KA.ms0 {C M : Mem} {mn en e : Nat} {g : As} (h : KA C M mn en g) (he : en ≤ e) : ms' C g e = 0 := by
  unfold ms'
  rw [nd_z (fun i z => by
    rcases h.2.1 i with h1 | ⟨_, e2, h2, _, h3⟩ <;> omega)]
  omega
theorem cs_n {C M : Mem} {mn en : Nat} {g : As} (hD : DI C) (hC : CR C) (hK : KA C M mn en g) : S31 M (csM M) ∧ csV M (ix (M 3 0 3)) = nI (cst C g) := by
  have ⟨h1, h2⟩ := csG_n hD hC hK en (Nat.le_refl _)
  have he6 := hK.1.1.2.2.2.2.2
  unfold csM
  rw [hK.en]
  refine ⟨h1, ?_⟩
  rw [h2]
  unfold cst
  rw [su_up (n := en) 5 (by omega) (fun e h3 _ => by rw [hK.ms0 h3]; rfl)]
end MSim
