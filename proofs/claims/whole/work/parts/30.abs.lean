/-! THE SEARCH, once: assignments g (0 nobody, e + 1 the entitlement e), st the best yet -/
section Abs
abbrev As := Nat → Nat
abbrev St := Option (Nat × As)
def ga (g : As) (a v : Nat) : As := fun j => if j = a then v else g j
theorem ga_s (g : As) (a v : Nat) : ga g a v a = v := by simp [ga]
theorem ga_o {g : As} {a v j : Nat} (h : j ≠ a) : ga g a v j = g j := by simp [ga, h]
def Sp : Type := (Nat → Nat → Bool) × (Nat → Bool) × (As → Nat) × (Nat → As → Bool) × (Nat → As → St → Bool)
def Sp.F (S : Sp) : Nat → Nat → Bool := S.1
def Sp.N (S : Sp) : Nat → Bool := S.2.1
def Sp.val (S : Sp) : As → Nat := S.2.2.1
def Sp.gok (S : Sp) : Nat → As → Bool := S.2.2.2.1
def Sp.cut (S : Sp) : Nat → As → St → Bool := S.2.2.2.2
def fo (F : Nat → Bool) (f : Nat → St → St) : Nat → St → St
  | 0, s => s
  | n + 1, s => if F n = true then f n (fo F f n s) else fo F f n s
def pr (S : Sp) (E : Nat) : Nat → Nat → As → St → St
  | 0 => fun a g st => if S.cut a g st = true then st else some (S.val g, g)
  | d + 1 => fun a g st => if S.cut a g st = true then st else
      if S.N a = true then pr S E d (a + 1) g (fo (fun e => S.F e a && S.gok e (ga g a (e + 1))) (fun e s => pr S E d (a + 1) (ga g a (e + 1)) s) E st)
      else fo (fun e => S.F e a && S.gok e (ga g a (e + 1))) (fun e s => pr S E d (a + 1) (ga g a (e + 1)) s) E st
theorem fo_id {F : Nat → Bool} {f : Nat → St → St} {s : St} : ∀ n, (∀ e, e < n → F e = true → f e s = s) → fo F f n s = s
  | 0, _ => rfl
  | n + 1, h => by
    have ih := fo_id n (fun e he => h e (by omega))
    unfold fo
    rw [ih]
    split
    · rename_i hf; exact h n (by omega) hf
    · rfl
theorem fo_eq {F F2 : Nat → Bool} {f f2 : Nat → St → St} {s : St} : ∀ n, (∀ e s, e < n → (if F e = true then f e s else s) = if F2 e = true then f2 e s else s) → fo F f n s = fo F2 f2 n s
  | 0, _ => rfl
  | n + 1, h => by
    have ih := fo_eq (s := s) n (fun e s he => h e s (by omega))
    unfold fo
    rw [ih]
    exact h n _ (by omega)
theorem fo_up {F : Nat → Bool} {f : Nat → St → St} {s : St} {n : Nat} : ∀ m, n ≤ m → (∀ e, n ≤ e → e < m → F e = false) → fo F f m s = fo F f n s
  | 0, h, _ => by rw [show n = 0 by omega]
  | m + 1, h, hf => by
    by_cases e : n = m + 1
    · rw [e]
    · have ih := fo_up (F := F) (f := f) (s := s) m (by omega) (fun e h1 h2 => hf e h1 (by omega))
      rw [← ih]
      conv => lhs; unfold fo
      simp [hf m (by omega) (by omega)]
/-- what the places from a on may still become -/
def Ext (S : Sp) (E a T : Nat) (g g2 : As) : Prop := ∀ j, g2 j = g j ∨ (a ≤ j ∧ j < T ∧ ∃ e, e < E ∧ S.F e j = true ∧ g2 j = e + 1)
theorem Ext.rf {S : Sp} {E a T : Nat} {g : As} : Ext S E a T g g := fun _ => .inl rfl
theorem Ext.up {S : Sp} {E a T : Nat} {g g2 : As} (h : Ext S E (a + 1) T g g2) : Ext S E a T g g2 := fun j => (h j).imp id (fun ⟨h1, h2⟩ => ⟨by omega, h2⟩)
theorem Ext.gv {S : Sp} {E a T e : Nat} {g g2 : As} (ha : a < T) (he : e < E) (hf : S.F e a = true) (h : Ext S E (a + 1) T (ga g a (e + 1)) g2) : Ext S E a T g g2 := fun j => by
  rcases h j with h1 | ⟨h1, h2⟩
  · by_cases hj : j = a
    · subst hj; exact .inr ⟨Nat.le_refl _, ha, e, he, hf, by rw [h1, ga_s]⟩
    · rw [ga_o hj] at h1; exact .inl h1
  · exact .inr ⟨by omega, h2⟩
/-- nothing below improves: nothing happens -/
theorem pr_id {S : Sp} {E T : Nat} : ∀ d a g st, a + d = T → (∀ g2, Ext S E a T g g2 → S.cut T g2 st = true) → pr S E d a g st = st
  | 0, a, g, st, h, hc => by
    unfold pr
    have h1 := hc g Ext.rf
    rw [show a = T by omega, if_pos h1]
  | d + 1, a, g, st, h, hc => by
    have h1 : pr S E d (a + 1) g st = st := pr_id d (a + 1) g st (by omega) (fun g2 hg => hc g2 hg.up)
    have h2 : fo (fun e => S.F e a && S.gok e (ga g a (e + 1))) (fun e s => pr S E d (a + 1) (ga g a (e + 1)) s) E st = st :=
      fo_id E (fun e he hf => pr_id d (a + 1) _ st (by omega) (fun g2 hg => hc g2 (hg.gv (by omega) he (by simp at hf; exact hf.1))))
    unfold pr
    rw [h2, h1]
    simp
/-- two searches that cut soundly, with the same leaves, find the same -/
def Snd (S S0 : Sp) (E T : Nat) (I : Nat → As → Prop) : Prop :=
  (∀ a g st, a ≤ T → I a g → S.cut a g st = true → ∀ g2, Ext S0 E a T g g2 → S0.cut T g2 st = true) ∧
  (∀ a g e st, a < T → I a g → e < E → S.F e a = true → S.gok e (ga g a (e + 1)) = false → ∀ g2, Ext S0 E (a + 1) T (ga g a (e + 1)) g2 → S0.cut T g2 st = true) ∧
  (∀ g st, I T g → S0.cut T g st = true → S.cut T g st = true) ∧
  (∀ a g, a < T → I a g → I (a + 1) g) ∧
  (∀ a g e, a < T → I a g → e < E → S.F e a = true → S.gok e (ga g a (e + 1)) = true → I (a + 1) (ga g a (e + 1)))
theorem pr_eq {S S0 : Sp} {E T : Nat} {I : Nat → As → Prop} (hF : S.F = S0.F) (hN : S.N = S0.N) (hv : S.val = S0.val) (h0 : ∀ a g st, a < T → S0.cut a g st = false) (h1 : ∀ e g, S0.gok e g = true) (hS : Snd S S0 E T I) :
    ∀ d a g st, a + d = T → I a g → pr S E d a g st = pr S0 E d a g st
  | 0, a, g, st, h, hi => by
    have ha : a = T := by omega
    subst ha
    unfold pr
    rw [hv]
    by_cases hc : S.cut a g st = true
    · rw [if_pos hc, if_pos (hS.1 a g st (Nat.le_refl _) hi hc g Ext.rf)]
    · rw [if_neg hc, if_neg (fun h2 => hc (hS.2.2.1 g st hi h2))]
  | d + 1, a, g, st, h, hi => by
    have hlt : a < T := by omega
    by_cases hc : S.cut a g st = true
    · rw [pr_id (S := S0) (T := T) (d + 1) a g st h (fun g2 hg => hS.1 a g st (by omega) hi hc g2 hg)]
      unfold pr
      rw [if_pos hc]
    · have hfo : ∀ st, fo (fun e => S.F e a && S.gok e (ga g a (e + 1))) (fun e s => pr S E d (a + 1) (ga g a (e + 1)) s) E st = fo (fun e => S0.F e a && S0.gok e (ga g a (e + 1))) (fun e s => pr S0 E d (a + 1) (ga g a (e + 1)) s) E st := fun st =>
        fo_eq E (fun e s he => by
          rw [hF, h1]
          by_cases hf : S0.F e a = true
          · rw [hf]
            by_cases hg : S.gok e (ga g a (e + 1)) = true
            · simp only [hg, Bool.and_self, if_true]
              exact pr_eq hF hN hv h0 h1 hS d (a + 1) _ s (by omega) (hS.2.2.2.2 a g e hlt hi he (by rw [hF]; exact hf) hg)
            · have hg2 : S.gok e (ga g a (e + 1)) = false := by simpa using hg
              simp only [hg2]
              simp
              exact (pr_id (S := S0) (T := T) d (a + 1) _ s (by omega) (fun g2 hx => hS.2.1 a g e s hlt hi he (by rw [hF]; exact hf) hg2 g2 hx)).symm
          · simp [hf])
      have hr : S0.cut a g st = false := h0 a g st hlt
      have hcf : S.cut a g st = false := by simpa using hc
      unfold pr
      simp only [hcf, hr, hN, Bool.false_eq_true, if_false]
      rw [hfo st]
      by_cases hn : S0.N a = true
      · rw [if_pos hn, if_pos hn]
        exact pr_eq hF hN hv h0 h1 hS d (a + 1) g _ (by omega) (hS.2.2.2.1 a g hlt hi)
      · rw [if_neg hn, if_neg hn]
theorem pr_lv {S : Sp} {E T : Nat} {g : As} {st : St} : ∀ r a, a + r = T → (∀ j, a ≤ j → j < T → S.N j = true ∧ S.cut j g st = false ∧ ∀ e, e < E → S.F e j = false) → pr S E r a g st = if S.cut T g st = true then st else some (S.val g, g)
  | 0, a, h, _ => by
    unfold pr
    rw [show a = T by omega]
  | r + 1, a, h, hn => by
    have ha := hn a (Nat.le_refl _) (by omega)
    have h2 : fo (fun e => S.F e a && S.gok e (ga g a (e + 1))) (fun e s => pr S E r (a + 1) (ga g a (e + 1)) s) E st = st :=
      fo_id E (fun e he hf => by rw [ha.2.2 e he] at hf; simp at hf)
    unfold pr
    rw [h2, if_neg (by rw [ha.2.1]; decide), if_pos ha.1]
    exact pr_lv r (a + 1) (by omega) (fun j h1 h2 => hn j (by omega) h2)
/-- places above mn that nothing fits make no difference -/
theorem pr_sk {S S2 : Sp} {E E2 mn T : Nat} (hF : S.F = S2.F) (hN : S.N = S2.N) (hv : S.val = S2.val) (hg : S.gok = S2.gok) (hT : mn ≤ T) (hE : E2 ≤ E)
    (hc : ∀ a g st, a < T → S.cut a g st = false) (hc2 : ∀ a g st, a < mn → S2.cut a g st = false) (hl : ∀ g st, S.cut T g st = S2.cut mn g st)
    (hn : ∀ j, mn ≤ j → j < T → S2.N j = true ∧ ∀ e, e < E → S2.F e j = false) (he : ∀ e j, E2 ≤ e → e < E → S2.F e j = false) :
    ∀ d a g st, a + d = mn → pr S E (d + (T - mn)) a g st = pr S2 E2 d a g st
  | 0, a, g, st, h => by
    rw [Nat.zero_add, pr_lv (T - mn) a (by omega) (fun j h1 h2 => ⟨by rw [hN]; exact (hn j (by omega) h2).1, hc j g st h2, fun e he => by rw [hF]; exact (hn j (by omega) h2).2 e he⟩)]
    unfold pr
    rw [hl, hv, show a = mn by omega]
  | d + 1, a, g, st, h => by
    have ih := pr_sk hF hN hv hg hT hE hc hc2 hl hn he d (a + 1)
    have hfo : ∀ st, fo (fun e => S.F e a && S.gok e (ga g a (e + 1))) (fun e s => pr S E (d + (T - mn)) (a + 1) (ga g a (e + 1)) s) E st = fo (fun e => S2.F e a && S2.gok e (ga g a (e + 1))) (fun e s => pr S2 E2 d (a + 1) (ga g a (e + 1)) s) E2 st := fun st => by
      rw [hF, hg, fo_up (n := E2) E hE (fun e h1 h2 => by rw [he e a h1 h2]; rfl)]
      exact fo_eq E2 (fun e s _ => by rw [ih _ s (by omega)])
    rw [show d + 1 + (T - mn) = (d + (T - mn)) + 1 by omega]
    unfold pr
    simp only [hc a g st (by omega), hc2 a g st (by omega), hN, Bool.false_eq_true, if_false]
    rw [hfo st]
    by_cases hq : S2.N a = true
    · rw [if_pos hq, if_pos hq]
      exact ih g _ (by omega)
    · rw [if_neg hq, if_neg hq]
end Abs
