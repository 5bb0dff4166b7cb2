/-! THE CLASS KEEPS THESE NUMBERS -/
section CSim
theorem half_n : ∀ a : Fin 13, (nI a.val + nI 1) / nI 2 = nI ((a.val + 1) / 2) := by decide
theorem mx_n {M : Mem} {e h : Nat} {f : Nat → Nat} (hf : ∀ p, p < 4 → M 9 e (h * 4 + p) = nI (f p)) (hb : ∀ p, f p ≤ 12) : ∀ n, n ≤ 4 → mx M e h n = nI (mxn f n)
  | 0, _ => rfl
  | n + 1, hn => by
    have ih := mx_n hf hb n (by omega)
    have h1 := mxn_b (f := f) (b := 12) n (fun i _ => hb i)
    have h2 := hb n
    unfold mx mxn
    rw [hf n (by omega), ih]
    by_cases h3 : mxn f n < f n
    · rw [if_pos ((nI_ltI (by omega) (by omega)).mpr h3), Nat.max_eq_right (by omega)]
    · rw [if_neg (fun z => h3 ((nI_ltI (by omega) (by omega)).mp z)), Nat.max_eq_left (by omega)]
theorem uoh_n {M0 M : Mem} {e h : Nat} {g : As} (h3 : M 0 e 3 = M0 0 e 3) (h10 : M 0 e 10 = M0 0 e 10) (hf : ∀ p, p < 4 → M 9 e (h * 4 + p) = nI (cn M0 g e h p)) : uoh M e h = nI (uo M0 g e h) := by
  have h1 := mx_n hf (fun p => cn_b M0 g e h p) 4 (by omega)
  have h2 := mxn_b (f := cn M0 g e h) (b := 12) 4 (fun p _ => cn_b M0 g e h p)
  unfold uoh uo
  rw [h1, h3, h10]
  split
  · exact half_n ⟨_, Nat.lt_succ_of_le h2⟩
  · rfl
theorem cn_ch {M : Mem} {g : As} {i e : Nat} (hi : i < 12) (hg : g i = 0) (h p : Nat) : cn M (ga g i (e + 1)) e h p = cn M g e h p + if hl M e i = h ∧ ix (M 1 i 1) = p then 1 else 0 := by
  have h1 := su_ch (f := fun j => if g j = e + 1 ∧ hl M e j = h ∧ ix (M 1 j 1) = p then 1 else 0) (f2 := fun j => if ga g i (e + 1) j = e + 1 ∧ hl M e j = h ∧ ix (M 1 j 1) = p then 1 else 0) (k := i) (fun j hj => by simp only [ga_o hj]) 12 hi
  simp only [ga_s, hg] at h1
  unfold cn
  simp only [true_and] at h1
  rw [if_neg (fun z => by omega)] at h1
  omega
theorem uo_o {M : Mem} {g : As} {i e h : Nat} (hi : i < 12) (hg : g i = 0) (hh : hl M e i ≠ h) : uo M (ga g i (e + 1)) e h = uo M g e h := by
  have h1 : cn M (ga g i (e + 1)) e h = cn M g e h := funext fun p => by rw [cn_ch hi hg, if_neg (fun z => hh z.1)]; rfl
  unfold uo
  rw [h1]
theorem nd_ch {M : Mem} {g : As} {i e : Nat} (hi : i < 12) (hg : g i = 0) (hh : hl M e i < 10) : nd M (ga g i (e + 1)) e + (if M 0 e 3 = nI 99 then 0 else uo M g e (hl M e i)) = nd M g e + if M 0 e 3 = nI 99 then co M e i else uo M (ga g i (e + 1)) e (hl M e i) := by
  unfold nd
  split
  · have h1 := su_ch (f := fun j => if g j = e + 1 then co M e j else 0) (f2 := fun j => if ga g i (e + 1) j = e + 1 then co M e j else 0) (k := i) (fun j hj => by simp only [ga_o hj]) 12 hi
    simp only [ga_s, hg, if_true] at h1
    rw [if_neg (fun z => by omega)] at h1
    omega
  · have h1 := su_ch (f := uo M g e) (f2 := uo M (ga g i (e + 1)) e) (k := hl M e i) (fun j hj => uo_o hi hg (fun z => hj z.symm)) 10 hh
    omega
end CSim
