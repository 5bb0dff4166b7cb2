/-! THE CLASS'S SEARCHES ARE THE SEARCH -/
section CSea
theorem sub_n {n u : Nat} (h : u ≤ n) : nI n - nI u = nI (n - u) := by
  have h1 := nI_add (n - u) u
  rw [Nat.sub_add_cancel h] at h1
  grind
theorem neg_n : ∀ k : Fin 1000, ¬ nI 0 < -(nI k.val) := by decide +kernel
theorem nd_b {M : Mem} {g : As} {e : Nat} (hC : CR M) (he : e < 5) : nd M g e ≤ 192 := by
  unfold nd
  split
  · refine su_b (b := 16) 12 (fun i hi => ?_)
    have h1 := (hC.1 i hi).2
    have h2 := (hC.2 e he).1.2
    have h3 : co M e i ≤ 16 := by unfold co; omega
    show (if g i = e + 1 then co M e i else 0) ≤ 16
    split <;> omega
  · have h1 := su_b (f := uo M g e) (b := 12) 10 (fun k _ => uo_b M g e k)
    omega
theorem mss_n {M0 M : Mem} {g : As} {e : Nat} (hC : CR M0) (h : CI M0 M g) (he : e < 5) : mss M e = nI (ms' M0 g e) := by
  have h1 := (h.2.2 e he).2
  have h2 := (hC.2 e he).2.1
  have h3 := nd_b (g := g) hC he
  have h4 := h2.2
  unfold mss ms' un
  rw [h1, h.1 0 e 4 rfl]
  rw [h2.1]
  generalize ix (M0 0 e 4) = u at *
  rw [ixn (by omega)]
  by_cases hu : u ≤ nd M0 g e
  · rw [sub_n hu]
    split
    · rfl
    · rename_i hz
      have : ¬ 0 < nd M0 g e - u := fun z => hz ((nI_ltI (by omega) (by omega)).mpr z)
      rw [show nd M0 g e - u = 0 by omega]
  · have h5 : nI (nd M0 g e) - nI u = -(nI (u - nd M0 g e)) := by
      have h6 := sub_n (n := u) (u := nd M0 g e) (by omega)
      grind
    rw [h5, if_neg (neg_n ⟨u - nd M0 g e, by omega⟩), show nd M0 g e - u = 0 by omega]
end CSea
