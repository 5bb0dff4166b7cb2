/-! WHAT AN ENTITLEMENT NEEDS, in numbers: M's own data, g the assignment -/
section Need
def su (f : Nat → Nat) : Nat → Nat
  | 0 => 0
  | n + 1 => su f n + f n
theorem su_le {f f2 : Nat → Nat} : ∀ n, (∀ i, i < n → f i ≤ f2 i) → su f n ≤ su f2 n
  | 0, _ => Nat.le_refl _
  | n + 1, h => Nat.add_le_add (su_le n (fun i hi => h i (by omega))) (h n (by omega))
theorem su_eq {f f2 : Nat → Nat} : ∀ n, (∀ i, i < n → f i = f2 i) → su f n = su f2 n
  | 0, _ => rfl
  | n + 1, h => by unfold su; rw [su_eq n (fun i hi => h i (by omega)), h n (by omega)]
theorem su_b {f : Nat → Nat} {b : Nat} : ∀ n, (∀ i, i < n → f i ≤ b) → su f n ≤ n * b
  | 0, _ => by simp [su]
  | n + 1, h => by
    have h1 := su_b (f := f) (b := b) n (fun i hi => h i (by omega))
    have h2 := h n (by omega)
    unfold su
    rw [Nat.add_mul]
    omega
theorem su_ch {f f2 : Nat → Nat} {k : Nat} (ho : ∀ i, i ≠ k → f2 i = f i) : ∀ n, k < n → su f2 n + f k = su f n + f2 k
  | 0, h => by omega
  | n + 1, h => by
    unfold su
    by_cases e : k = n
    · subst e
      have h1 : su f2 k = su f k := su_eq k (fun i hi => ho i (by omega))
      omega
    · have h1 := su_ch ho n (by omega)
      have h2 := ho n (fun z => e z.symm)
      omega
def mxn (f : Nat → Nat) : Nat → Nat
  | 0 => 0
  | p + 1 => max (mxn f p) (f p)
theorem mxn_le {f f2 : Nat → Nat} : ∀ n, (∀ i, i < n → f i ≤ f2 i) → mxn f n ≤ mxn f2 n
  | 0, _ => Nat.le_refl _
  | n + 1, h => by
    have h1 := mxn_le n (fun i hi => h i (by omega))
    have h2 := h n (by omega)
    unfold mxn
    omega
theorem mxn_b {f : Nat → Nat} {b : Nat} : ∀ n, (∀ i, i < n → f i ≤ b) → mxn f n ≤ b
  | 0, _ => Nat.zero_le _
  | n + 1, h => by
    have h1 := mxn_b n (fun i hi => h i (by omega))
    have h2 := h n (by omega)
    unfold mxn
    omega
def hl (M : Mem) (e i : Nat) : Nat := if M 0 e 3 = nI 100 then ix (M 1 i 4) else ix (M 1 i 5)
def cn (M : Mem) (g : As) (e h p : Nat) : Nat := su (fun i => if g i = e + 1 ∧ hl M e i = h ∧ ix (M 1 i 1) = p then 1 else 0) 12
def uo (M : Mem) (g : As) (e h : Nat) : Nat := if M 0 e 3 = nI 117 ∧ ¬ M 0 e 10 = 0 then (mxn (cn M g e h) 4 + 1) / 2 else mxn (cn M g e h) 4
def co (M : Mem) (e i : Nat) : Nat := max (ix (M 1 i 6)) (ix (M 0 e 6))
def nd (M : Mem) (g : As) (e : Nat) : Nat := if M 0 e 3 = nI 99 then su (fun i => if g i = e + 1 then co M e i else 0) 12 else su (uo M g e) 10
def un (M : Mem) (e : Nat) : Nat := ix (M 0 e 4)
def ms' (M : Mem) (g : As) (e : Nat) : Nat := nd M g e - un M e
def cst (M : Mem) (g : As) : Nat := su (fun e => ix (M 0 e 7) * ms' M g e) 5
def ct (g : As) : Nat := su (fun i => if g i = 0 then 0 else 1) 12
/-- g2 gives all that g gives -/
def Le (g g2 : As) : Prop := ∀ i, g i = 0 ∨ g2 i = g i
theorem cn_le {M : Mem} {g g2 : As} (h : Le g g2) (e k p : Nat) : cn M g e k p ≤ cn M g2 e k p := su_le 12 (fun i _ => by
  show (if g i = e + 1 ∧ hl M e i = k ∧ ix (M 1 i 1) = p then 1 else 0) ≤ if g2 i = e + 1 ∧ hl M e i = k ∧ ix (M 1 i 1) = p then 1 else 0
  rcases h i with h1 | h1
  · rw [h1, if_neg (fun z => by omega)]; omega
  · rw [h1]; omega)
theorem uo_le {M : Mem} {g g2 : As} (h : Le g g2) (e k : Nat) : uo M g e k ≤ uo M g2 e k := by
  have h1 := mxn_le (f := cn M g e k) (f2 := cn M g2 e k) 4 (fun p _ => cn_le h e k p)
  unfold uo
  split <;> omega
theorem nd_le {M : Mem} {g g2 : As} (h : Le g g2) (e : Nat) : nd M g e ≤ nd M g2 e := by
  unfold nd
  split
  · refine su_le 12 (fun i _ => ?_)
    rcases h i with h1 | h1
    · rw [h1, if_neg (fun z => by omega)]; omega
    · rw [h1]; omega
  · exact su_le 10 (fun k _ => uo_le h e k)
theorem ms'_le {M : Mem} {g g2 : As} (h : Le g g2) (e : Nat) : ms' M g e ≤ ms' M g2 e := Nat.sub_le_sub_right (nd_le h e) _
theorem cst_le {M : Mem} {g g2 : As} (h : Le g g2) : cst M g ≤ cst M g2 := su_le 5 (fun e _ => Nat.mul_le_mul_left _ (ms'_le h e))
theorem cn_b (M : Mem) (g : As) (e h p : Nat) : cn M g e h p ≤ 12 := su_b (b := 1) 12 (fun i _ => by
  show (if g i = e + 1 ∧ hl M e i = h ∧ ix (M 1 i 1) = p then 1 else 0) ≤ 1
  split <;> omega)
theorem uo_b (M : Mem) (g : As) (e h : Nat) : uo M g e h ≤ 12 := by
  have h1 := mxn_b (f := cn M g e h) (b := 12) 4 (fun p _ => cn_b M g e h p)
  unfold uo
  split <;> omega
/-- an entitlement that g does not touch needs the same -/
theorem nd_o {M : Mem} {g : As} {a v e : Nat} (hg : g a ≠ e + 1) (hv : v ≠ e + 1) : nd M (ga g a v) e = nd M g e := by
  have hk : ∀ i, (ga g a v i = e + 1) = (g i = e + 1) := fun i => by
    unfold ga
    by_cases h : i = a
    · subst h; simp [hg, hv]
    · simp [h]
  unfold nd uo cn
  simp only [hk]
end Need
