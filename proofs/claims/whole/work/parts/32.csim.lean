/-! THE CLASS KEEPS THESE NUMBERS -/
section CSim
theorem half_n : ∀ a : Fin 13, (nI a.val + nI 1) / nI 2 = nI ((a.val + 1) / 2) := by decide
theorem mx_n {M : Mem} {e h : Nat} {f : Nat → Nat} (hf : ∀ p, p < 4 → M 9 e (h * 4 + p) = nI (f p)) (hb : ∀ p, f p ≤ 12) : ∀ n, n ≤ 4 → mx M e h n = nI (mxn f n)
  | 0, _ => rfl
  | n + 1, hn => by
    have ih := mx_n hf hb n (by omega)
    have h1 := mxn_b (f := f) (b := 12) n (fun i _ => hb i)
    have h2 := hb n
    unfold mx mxn
    rw [hf n (by omega), ih]
    by_cases h3 : mxn f n < f n
    · rw [if_pos ((nI_ltI (by omega) (by omega)).mpr h3), Nat.max_eq_right (by omega)]
    · rw [if_neg (fun z => h3 ((nI_ltI (by omega) (by omega)).mp z)), Nat.max_eq_left (by omega)]
theorem uoh_n {M0 M : Mem} {e h : Nat} {g : As} (h3 : M 0 e 3 = M0 0 e 3) (h10 : M 0 e 10 = M0 0 e 10) (hf : ∀ p, p < 4 → M 9 e (h * 4 + p) = nI (cn M0 g e h p)) : uoh M e h = nI (uo M0 g e h) := by
  have h1 := mx_n hf (fun p => cn_b M0 g e h p) 4 (by omega)
  have h2 := mxn_b (f := cn M0 g e h) (b := 12) 4 (fun p _ => cn_b M0 g e h p)
  unfold uoh uo
  rw [h1, h3, h10]
  split
  · exact half_n ⟨_, Nat.lt_succ_of_le h2⟩
  · rfl
theorem cn_ch {M : Mem} {g : As} {i e : Nat} (hi : i < 12) (hg : g i = 0) (h p : Nat) : cn M (ga g i (e + 1)) e h p = cn M g e h p + if hl M e i = h ∧ ix (M 1 i 1) = p then 1 else 0 := by
  have h1 := su_ch (f := fun j => if g j = e + 1 ∧ hl M e j = h ∧ ix (M 1 j 1) = p then 1 else 0) (f2 := fun j => if ga g i (e + 1) j = e + 1 ∧ hl M e j = h ∧ ix (M 1 j 1) = p then 1 else 0) (k := i) (fun j hj => by simp only [ga_o hj]) 12 hi
  simp only [ga_s, hg] at h1
  unfold cn
  simp only [true_and] at h1
  rw [if_neg (fun z => by omega)] at h1
  omega
theorem uo_o {M : Mem} {g : As} {i e h : Nat} (hi : i < 12) (hg : g i = 0) (hh : hl M e i ≠ h) : uo M (ga g i (e + 1)) e h = uo M g e h := by
  have h1 : cn M (ga g i (e + 1)) e h = cn M g e h := funext fun p => by rw [cn_ch hi hg, if_neg (fun z => hh z.1)]; rfl
  unfold uo
  rw [h1]
theorem nd_ch {M : Mem} {g : As} {i e : Nat} (hi : i < 12) (hg : g i = 0) (hh : hl M e i < 10) : nd M (ga g i (e + 1)) e + (if M 0 e 3 = nI 99 then 0 else uo M g e (hl M e i)) = nd M g e + if M 0 e 3 = nI 99 then co M e i else uo M (ga g i (e + 1)) e (hl M e i) := by
  unfold nd
  split
  · have h1 := su_ch (f := fun j => if g j = e + 1 then co M e j else 0) (f2 := fun j => if ga g i (e + 1) j = e + 1 then co M e j else 0) (k := i) (fun j hj => by simp only [ga_o hj]) 12 hi
    simp only [ga_s, hg, if_true] at h1
    rw [if_neg (fun z => by omega)] at h1
    omega
  · have h1 := su_ch (f := uo M g e) (f2 := uo M (ga g i (e + 1)) e) (k := hl M e i) (fun j hj => uo_o hi hg (fun z => hj z.symm)) 10 hh
    omega
theorem i32_mv {a b c d : Int32} (h : a + b = c + d) : c + (d - b) = a := by grind
theorem i32_mb {a b c d : Int32} (h : a + b = c + d) : a + (b - d) = c := by grind
theorem i32_m1 {a b c : Int32} (h : a = c + b) : a + -1 * b = c := by grind
theorem i32_c {a : Int32} : a + nI 1 + -1 = a := by
  have : nI 1 = 1 := rfl
  grind
theorem i32_p1 {a b c : Int32} (h : a = c + b) : c + nI 1 * b = a := by
  have : nI 1 = 1 := rfl
  grind
theorem chg_9 {M : Mem} {e i : Nat} {b : Int32} (h : M 0 e 3 = nI 99) : chg M e i b = ms M 0 e 12 (M 0 e 12 + b * (if M 1 i 6 < M 0 e 6 then M 0 e 6 else M 1 i 6)) := by
  unfold chg
  rw [if_pos h]
theorem chg_q {M : Mem} {e i : Nat} {b : Int32} (h : ¬ M 0 e 3 = nI 99) : chg M e i b = ms (ms M 9 e (hl M e i * 4 + ix (M 1 i 1)) (M 9 e (hl M e i * 4 + ix (M 1 i 1)) + b)) 0 e 12 (M 0 e 12 + (uoh (ms M 9 e (hl M e i * 4 + ix (M 1 i 1)) (M 9 e (hl M e i * 4 + ix (M 1 i 1)) + b)) e (hl M e i) - uoh M e (hl M e i))) := by
  unfold chg hl
  rw [if_neg h]
  split <;> rfl
def CR (M : Mem) : Prop := (∀ i, i < 12 → Rg (M 1 i 6) 17) ∧ ∀ e, e < 5 → Rg (M 0 e 6) 17 ∧ Rg (M 0 e 4) 1000 ∧ Rg (M 0 e 7) 100
def CN (M0 M : Mem) (g : As) (e : Nat) : Prop := (∀ h p, h < 10 → p < 4 → ¬ M0 0 e 3 = nI 99 → M 9 e (h * 4 + p) = nI (cn M0 g e h p)) ∧ M 0 e 12 = nI (nd M0 g e)
theorem hl_b {M : Mem} {e i : Nat} (hD : DI M) (hi : i < 12) : hl M e i < 10 := by
  have h := hD.2.2.2 i hi
  unfold hl
  split
  · exact h.2.1.2
  · exact h.2.2.2
theorem co_n {M : Mem} {e i : Nat} (hC : CR M) (hi : i < 12) (he : e < 5) : (if M 1 i 6 < M 0 e 6 then M 0 e 6 else M 1 i 6) = nI (co M e i) := by
  have h1 := hC.1 i hi
  have h2 := (hC.2 e he).1
  have h3 := h1.2
  have h4 := h2.2
  unfold co
  rw [h1.1, h2.1]
  generalize ix (M 1 i 6) = a at h3
  generalize ix (M 0 e 6) = b at h4
  rw [show ix (nI a) = a from ?_, show ix (nI b) = b from ?_]
  · by_cases h : a < b
    · rw [if_pos ((nI_ltI (by omega) (by omega)).mpr h), Nat.max_eq_right (by omega)]
    · rw [if_neg (fun z => h ((nI_ltI (by omega) (by omega)).mp z)), Nat.max_eq_left (by omega)]
  · exact ixn (by omega)
  · exact ixn (by omega)
theorem hl_sm {M M1 : Mem} (h : Sm M M1) (e i : Nat) : hl M1 e i = hl M e i := by
  unfold hl
  rw [h 0 e 3 rfl, h 1 i 4 rfl, h 1 i 5 rfl]
theorem chg_CN {M0 A : Mem} {g g2 : As} {e i : Nat} {b : Int32} (hs : Sm M0 A) (hD : DI M0) (hC : CR M0) (hi : i < 12) (he : e < 5) (h : CN M0 A g e)
    (hcn : ∀ h p, nI (cn M0 g e h p) + (if hl M0 e i = h ∧ ix (M0 1 i 1) = p then b else nI 0) = nI (cn M0 g2 e h p))
    (hnd : nI (nd M0 g e) + (if M0 0 e 3 = nI 99 then b * nI (co M0 e i) else nI (uo M0 g2 e (hl M0 e i)) - nI (uo M0 g e (hl M0 e i))) = nI (nd M0 g2 e)) : CN M0 (chg A e i b) g2 e := by
  by_cases h9 : M0 0 e 3 = nI 99
  · refine ⟨fun _ _ _ _ hn => absurd h9 hn, ?_⟩
    rw [chg_9 (by rw [hs 0 e 3 rfl]; exact h9), ms_s, h.2, hs 1 i 6 rfl, hs 0 e 6 rfl, co_n hC hi he]
    rw [if_pos h9] at hnd
    exact hnd
  · have hA9 : ¬ A 0 e 3 = nI 99 := by rw [hs 0 e 3 rfl]; exact h9
    rw [chg_q hA9, hl_sm hs, hs 1 i 1 rfl]
    have hq := hl_b (e := e) hD hi
    have hp := (hD.2.2.2 i hi).1.2
    rw [if_neg h9] at hnd
    generalize hB : ms A 9 e (hl M0 e i * 4 + ix (M0 1 i 1)) (A 9 e (hl M0 e i * 4 + ix (M0 1 i 1)) + b) = B
    have hB3 : B 0 e 3 = M0 0 e 3 := by rw [← hB, ms_o (by omega), hs 0 e 3 rfl]
    have hB10 : B 0 e 10 = M0 0 e 10 := by rw [← hB, ms_o (by omega), hs 0 e 10 rfl]
    have hc : ∀ h' p, h' < 10 → p < 4 → B 9 e (h' * 4 + p) = nI (cn M0 g2 e h' p) := fun h' p h1 h2 => by
      have h3 := hcn h' p
      by_cases hm : hl M0 e i = h' ∧ ix (M0 1 i 1) = p
      · rw [if_pos hm] at h3
        rw [← hB, ← hm.1, ← hm.2, ms_s, h.1 _ _ hq hp h9, hm.1, hm.2]
        exact h3
      · rw [if_neg hm] at h3
        rw [← hB, ms_o (by omega), h.1 _ _ h1 h2 h9, ← h3]
        exact (Int32.add_zero _).symm
    refine ⟨fun h' p h1 h2 _ => by rw [ms_o (by omega)]; exact hc h' p h1 h2, ?_⟩
    rw [ms_s, uoh_n (M0 := M0) (g := g2) hB3 hB10 (fun p hp => hc _ p hq hp), uoh_n (M0 := M0) (g := g) (hs 0 e 3 rfl) (hs 0 e 10 rfl) (fun p hp => h.1 _ p hq hp h9), h.2]
    exact hnd
theorem giv_CN {M0 A : Mem} {g : As} {e i : Nat} (hs : Sm M0 A) (hD : DI M0) (hC : CR M0) (hi : i < 12) (he : e < 5) (h : CN M0 A g e) (hg : g i = 0) : CN M0 (chg A e i (nI 1)) (ga g i (e + 1)) e := by
  have hn := nd_ch (M := M0) hi hg (hl_b (e := e) hD hi)
  refine chg_CN hs hD hC hi he h (fun h' p => ?_) ?_
  · rw [cn_ch hi hg, ← nI_add]
    congr 1
    split <;> rfl
  · by_cases h9 : M0 0 e 3 = nI 99
    · simp only [h9, if_true] at hn ⊢
      exact i32_p1 (by rw [nI_add]; exact congrArg nI hn)
    · simp only [h9, if_false] at hn ⊢
      exact i32_mv (by rw [nI_add, nI_add]; exact congrArg nI hn)
theorem tak_CN {M0 A : Mem} {g : As} {e i : Nat} (hs : Sm M0 A) (hD : DI M0) (hC : CR M0) (hi : i < 12) (he : e < 5) (h : CN M0 A (ga g i (e + 1)) e) (hg : g i = 0) : CN M0 (chg A e i (-1)) g e := by
  have hn := nd_ch (M := M0) hi hg (hl_b (e := e) hD hi)
  refine chg_CN hs hD hC hi he h (fun h' p => ?_) ?_
  · rw [cn_ch hi hg]
    split
    · rw [← nI_add]
      exact i32_c
    · exact Int32.add_zero _
  · by_cases h9 : M0 0 e 3 = nI 99
    · simp only [h9, if_true] at hn ⊢
      exact i32_m1 (by rw [nI_add]; exact congrArg nI hn)
    · simp only [h9, if_false] at hn ⊢
      exact i32_mb (by rw [nI_add, nI_add]; exact congrArg nI hn)
/-- the class stands at g -/
def CI (M0 M : Mem) (g : As) : Prop := Sm M0 M ∧ (∀ i, i < 12 → M 6 0 i = dv (g i)) ∧ ∀ e, e < 5 → CN M0 M g e
theorem CN_o {M0 M M1 : Mem} {g g2 : As} {e : Nat} (h : CN M0 M g e) (h9 : ∀ k, M1 9 e k = M 9 e k) (h0 : M1 0 e 12 = M 0 e 12) (hc : cn M0 g2 e = cn M0 g e) (hn : nd M0 g2 e = nd M0 g e) : CN M0 M1 g2 e :=
  ⟨fun a p h1 h2 h3 => by rw [h9, hc]; exact h.1 a p h1 h2 h3, by rw [h0, hn]; exact h.2⟩
theorem chg_x {M : Mem} {e i : Nat} {b : Int32} {c n k : Nat} (h : ¬ (c = 9 ∧ n = e)) (h2 : ¬ (c = 0 ∧ n = e ∧ k = 12)) : chg M e i b c n k = M c n k := by
  by_cases h9 : M 0 e 3 = nI 99
  · rw [chg_9 h9, ms_o h2]
  · rw [chg_q h9, ms_o h2, ms_o (fun z => h ⟨z.1, z.2.1⟩)]
theorem cn_o {M : Mem} {g : As} {a v e : Nat} (hg : g a ≠ e + 1) (hv : v ≠ e + 1) : cn M (ga g a v) e = cn M g e := by
  have hk : ∀ i, (ga g a v i = e + 1) = (g i = e + 1) := fun i => by
    unfold ga
    by_cases h : i = a
    · subst h; simp [hg, hv]
    · simp [h]
  funext h p
  unfold cn
  simp only [hk]
theorem giveM_CI {M0 M : Mem} {g : As} {e i : Nat} (hD : DI M0) (hC : CR M0) (hi : i < 12) (he : e < 5) (h : CI M0 M g) (hg : g i = 0) : CI M0 (giveM M i e) (ga g i (e + 1)) := by
  refine ⟨Sm_chg (Sm_ms h.1 rfl), fun j hj => ?_, fun e2 he2 => ?_⟩
  · show chg (ms M 6 0 i (nI e)) e i (nI 1) 6 0 j = _
    rw [chg_x (by omega) (by omega)]
    by_cases hji : j = i
    · subst hji; rw [ms_s, ga_s]; rfl
    · rw [ms_o (by omega), ga_o hji]; exact h.2.1 j hj
  · by_cases h2 : e2 = e
    · subst h2
      exact giv_CN (Sm_ms h.1 rfl) hD hC hi he (CN_o (h.2.2 e2 he) (fun k => ms_o (by omega)) (ms_o (by omega)) rfl rfl) hg
    · refine CN_o (h.2.2 e2 he2) (fun k => ?_) ?_ (cn_o (by omega) (by omega)) (nd_o (by omega) (by omega))
      · show chg (ms M 6 0 i (nI e)) e i (nI 1) 9 e2 k = _
        rw [chg_x (by omega) (by omega), ms_o (by omega)]
      · show chg (ms M 6 0 i (nI e)) e i (nI 1) 0 e2 12 = _
        rw [chg_x (by omega) (by omega), ms_o (by omega)]
theorem tkM_CI {M0 M : Mem} {g : As} {e i : Nat} (hD : DI M0) (hC : CR M0) (hi : i < 12) (he : e < 5) (h : CI M0 M (ga g i (e + 1))) (hg : g i = 0) : CI M0 (tkM M i e) g := by
  refine ⟨Sm_chg (Sm_ms h.1 rfl), fun j hj => ?_, fun e2 he2 => ?_⟩
  · show chg (ms M 6 0 i (-1)) e i (-1) 6 0 j = _
    rw [chg_x (by omega) (by omega)]
    by_cases hji : j = i
    · subst hji; rw [ms_s, hg]; rfl
    · have h3 := h.2.1 j hj
      rw [ga_o hji] at h3
      rw [ms_o (by omega)]; exact h3
  · by_cases h2 : e2 = e
    · subst h2
      exact tak_CN (Sm_ms h.1 rfl) hD hC hi he (CN_o (h.2.2 e2 he) (fun k => ms_o (by omega)) (ms_o (by omega)) rfl rfl) hg
    · refine CN_o (h.2.2 e2 he2) (fun k => ?_) ?_ (cn_o (by omega) (by omega)).symm (nd_o (by omega) (by omega)).symm
      · show chg (ms M 6 0 i (-1)) e i (-1) 9 e2 k = _
        rw [chg_x (by omega) (by omega), ms_o (by omega)]
      · show chg (ms M 6 0 i (-1)) e i (-1) 0 e2 12 = _
        rw [chg_x (by omega) (by omega), ms_o (by omega)]
end CSim
