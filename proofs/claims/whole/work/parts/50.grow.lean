/-! THE WORLD GROWS: what a constructor makes -/
section Grow
def WG (w w2 : Wo) (ks : List (Nat × Nat)) (sz : Nat) : Prop := w2.2.1 = w.2.1 ++ ks ∧ w2.2.2 = w.2.2 ∧ (∀ k ∈ w.2.1, w2.1 k = w.1 k) ∧ (∀ k ∈ ks, sz ≤ w2.1 k) ∧ WI w2 ∧ ∀ k, k ∉ ks → w2.1 k = w.1 k
def wadd (w : Wo) (k : Nat × Nat) (a : Nat) : Wo := (fun k2 => if k2 = k then a else w.1 k2, w.2.1 ++ [k], w.2.2)
theorem WL_cong {w : Wo} {E E2 : Nat × Nat → va_E} (h : ∀ k ∈ w.2.1, E k = E2 k) : WL w E = WL w E2 := by
  unfold WL
  exact List.map_congr_left (fun k hk => by rw [h k hk])
theorem WL_add {w : Wo} {k : Nat × Nat} {a : Nat} {E : Nat × Nat → va_E} (hk : k ∉ w.2.1) : WL (wadd w k a) E = WL w E ++ [(a, E k)] := by
  unfold WL wadd
  rw [List.map_append]
  congr 1
  · exact List.map_congr_left (fun k2 h2 => by
      have : k2 ≠ k := fun z => hk (by rw [← z]; exact h2)
      simp [this])
  · simp
theorem WI_of {w : Wo} {E : Nat × Nat → va_E} {A : Nat → Prop} (h : va_D A (WL w E)) : WI w := fun i j k k2 h1 h2 he => h.1 i j _ _ (WL_get h1) (WL_get h2) he
theorem grow1 {w : Wo} {k : Nat × Nat} {q n : Nat} {E : Nat × Nat → va_E} {v : va_E} (hk : k ∉ w.2.1) (hD : va_D (AA w n) (WL w E ++ [(q, v)])) : WG w (wadd w k q) [k] n := by
  have hl : (WL w E ++ [(q, v)])[(WL w E).length]? = some (q, v) := by simp
  refine ⟨rfl, rfl, fun k2 h2 => ?_, fun k2 h2 => ?_, ?_, fun k2 h2 => ?_⟩
  · have : k2 ≠ k := fun z => hk (by rw [← z]; exact h2)
    simp [wadd, this]
  · have e : k2 = k := by simpa using h2
    subst e
    have hq : (wadd w k2 q).1 k2 = q := by simp [wadd]
    rw [hq]
    rcases hD.2 _ _ hl with ⟨k3, h3, h4⟩ | h3
    · obtain ⟨i, hi⟩ := WL_in h3
      have hil : i < (WL w E).length := (List.getElem?_eq_some_iff.mp (WL_get (E := E) hi)).1
      have h5 := hD.1 i _ _ _ (by rw [List.getElem?_append_left hil]; exact WL_get hi) hl h4
      omega
    · exact h3
  · refine WI_of (E := fun k2 => if k2 = k then v else E k2) (A := AA w n) ?_
    rw [WL_add hk, if_pos rfl, WL_cong (E2 := E) (fun k2 h2 => by
      have : k2 ≠ k := fun z => hk (by rw [← z]; exact h2)
      rw [if_neg this])]
    exact hD
  · have : k2 ≠ k := fun z => h2 (by rw [z]; exact List.mem_singleton.mpr rfl)
    simp [wadd, this]
theorem AA_grow {w w2 : Wo} {ks : List (Nat × Nat)} {sz n : Nat} (h : WG w w2 ks sz) (hn : n ≤ sz) (q : Nat) : AA w2 n q ↔ AA w n q := by
  constructor
  · rintro (⟨k, h1, h2⟩ | h1)
    · rw [h.1] at h1
      rcases List.mem_append.mp h1 with h3 | h3
      · exact .inl ⟨k, h3, by rw [← h.2.2.1 k h3]; exact h2⟩
      · exact .inr (by rw [← h2]; exact Nat.le_trans hn (h.2.2.2.1 k h3))
    · exact .inr h1
  · rintro (⟨k, h1, h2⟩ | h1)
    · exact .inl ⟨k, by rw [h.1]; exact List.mem_append_left _ h1, by rw [h.2.2.1 k h1]; exact h2⟩
    · exact .inr h1
theorem va_S.grow {w w2 : Wo} {ks : List (Nat × Nat)} {sz : Nat} {H0 H : Heap} {locs : List Loc} (h : WG w w2 ks sz) (hn : H0.size ≤ sz) (hS : va_S (AA w H0.size) H0 H locs) : va_S (AA w2 H0.size) H0 H locs :=
  ⟨hS.1, fun q h1 h2 => hS.2.1 q h1 (fun z => h2 ((AA_grow h hn q).mpr z)), fun l hl => (AA_grow h hn _).mpr (hS.2.2 l hl)⟩
theorem HZ.grow {w w2 : Wo} {ks : List (Nat × Nat)} {sz : Nat} {U : State} {H : Heap} (h : WG w w2 ks sz) (hn : H.size ≤ sz) (hz : HZ w U H) : HZ w2 U H := by
  have hAB : ∀ q, q < H.size → AW w2 q → AW w q := fun q h1 h2 => by
    rcases (AA_grow h hn q).mp (.inl h2) with h3 | h3
    · exact h3
    · omega
  exact ⟨hz.1.other hAB, hz.2.other hAB⟩
variable {p : Program} {l : Launch} {e : Env} {R : Room} {s : State} {m : MethodId} {args : Array Value} {below : List Frame} {meth : Method} {c : Code} {cells slots : Nat} {Q : State → Prop} {cc : ByteArray} {nL : Nat} {own : String} {ret : Option FieldType} {hh : List (Nat × Nat × Nat × Nat)} {w : Wo} {pc : Nat} {lv : List (Option Value)} {st : List Value} {E : Nat × Nat → va_E}
theorem Cx.grow {w2 : Wo} {ks : List (Nat × Nat)} {sz : Nat} (X : Cx p l R s m args meth c cc nL own ret hh w) (h : WG w w2 ks sz) (hn : s.heap.size ≤ sz) : Cx p l R s m args meth c cc nL own ret hh w2 :=
  ⟨X.1, X.2.1, by have := X.kw; unfold KW at *; rw [h.2.1]; exact this, h.2.2.2.2.1, X.hz.grow h hn⟩
theorem VE_cong {E2 : Nat × Nat → va_E} (h : ∀ k ∈ w.2.1, E k = E2 k) (k : VE p l e R s m args below meth c cells slots Q nL w pc lv st E2) : VE p l e R s m args below meth c cells slots Q nL w pc lv st E := fun H locs ls hP hS hL => k H locs ls (by rw [← WL_cong h]; exact hP) hS hL
/-- a key is added: the world w2, E2 there -/
def Ad (w w2 : Wo) (key : Nat × Nat) (n : Nat) (E E2 : Nat × Nat → va_E) (v : va_E) : Prop := WG w w2 [key] n ∧ E2 key = v ∧ ∀ k ∈ w.2.1, E2 k = E k
theorem Ad.P {w2 : Wo} {key : Nat × Nat} {n : Nat} {E2 : Nat × Nat → va_E} {v : va_E} {H : Heap} (h1 : w2 = wadd w key n) (hk : key ∉ w.2.1) (hE : E2 key = v) (hE2 : ∀ k ∈ w.2.1, E2 k = E k) (hP : va_P w.2.2.1 vwCl (WL w E ++ [(n, v)]) H) : va_P w2.2.2.1 vwCl (WL w2 E2) H := by
  subst h1
  rw [WL_add hk, hE, WL_cong hE2]
  exact hP
theorem r_new (X : Cx p l R s m args meth c cc nL own ret hh w) {key : Nat × Nat} {index ci N : Nat} {C : String} {T : u_T} {ty : Nat → FieldType} {fs : List Value} {E2 : Wo → Nat × Nat → va_E} (kc : KC ci C T N ty) (hnk : key ∉ w.2.1) (hfs : ∀ j, j < N → defaultValue (ty j) = vp_V fs j) (hcl : Cond.classLink own index C ∈ lw_tbl) (hinst : Cond.instantiable C N ∈ lw_tbl) (hini : Cond.initialized C ∈ lw_tbl) (hcells : cells + 1 ≤ R.cells) (hslots : slots + N ≤ R.slots) (d : decode cc pc = .ok (.new index, 3))
    (hE : ∀ w2, WG w w2 [key] s.heap.size → E2 w2 key = .inr (ci, fs) ∧ ∀ k ∈ w.2.1, E2 w2 k = E k)
    (k : ∀ w2, WG w w2 [key] s.heap.size → Cx p l R s m args meth c cc nL own ret hh w2 → VE p l e R s m args below meth c (cells + 1) (slots + N) Q nL w2 (pc + 3) lv (.ref (w2.1 key) :: st) (E2 w2)) : VE p l e R s m args below meth c cells slots Q nL w pc lv st E := fun H locs ls hP hS hL =>
  va_new X.x X.b (Ts := u_ws C T N) (fun q h => X.wd (kc.2.1 q h).1 (kc.2.1 q h).2) (fun q h => h) ty kc.2.2.2.1 X.ow (X.wd hcl rfl) (X.wd hinst rfl) (X.wd hini rfl) X.k hP (WD X.wi s.heap.size E) hS (fun q h => Or.inr h) kc.1 hfs hcells hslots d (fun q H1 hP1 hD1 hS1 => by
    have hG := grow1 hnk hD1
    have h2 := hE _ hG
    have h3 := k (wadd w key q) hG (X.grow hG (Nat.le_refl _)) H1 locs ls (Ad.P rfl hnk h2.1 h2.2 hP1) (va_S.grow hG (Nat.le_refl _) hS1) hL
    rw [show (wadd w key q).1 key = q by simp [wadd]] at h3
    exact h3)
theorem ra_uq {U : State} {a b : ClassId} {ty : FieldType} (h1 : va_RA U a ty) (h2 : va_RA U b ty) : a = b := by
  cases ty with
  | object C =>
    obtain ⟨k1, c1, -, -, -, g1⟩ := h1
    obtain ⟨k2, c2, -, -, -, g2⟩ := h2
    exact Option.some.inj (g1.symm.trans g2)
  | _ => exact Option.some.inj (h1.symm.trans h2)
theorem cA_uq {D : va_G} {cl : List vw_C} {tys : List (ClassId × FieldType)} {U : State} {cA cB : ClassId} {ty : FieldType} {t0 : Nat} (h1 : va_K D cl (tys ++ [(cA, ty)]) U) (ht : tys[t0]? = some (cB, ty)) : cA = cB := by
  have hl : t0 < tys.length := (List.getElem?_eq_some_iff.mp ht).1
  have a1 := (h1.2 tys.length (cA, ty) (by simp)).2
  have a2 := (h1.2 t0 (cB, ty) (by rw [List.getElem?_append_left hl]; exact ht)).2
  exact ra_uq a1 a2
theorem r_newa (X : Cx p l R s m args meth c cc nL own ret hh w) {key : Nat × Nat} {atype : ArrayType} {ty : FieldType} {t0 N : Nat} {n : Int32} {a0 : vp_A} {E2 : Wo → Nat × Nat → va_E} (hnk : key ∉ w.2.1) (hty : newarray.typeOf atype = ty) (ht : (tyl w.2.2.2)[t0]? = some (w.2.2.2 t0, ty)) (ha : ∀ cA : ClassId, vp_cell cA a0 = arrV cA N (fun _ => defaultValue ty)) (hn : ¬ n < 0) (hN : n.toNatClampNeg = N) (hbytes : N * componentBytes ty ≤ 536870912) (harr : Cond.arrayClass (newarray.typeOf atype) ∈ lw_tbl) (hcells : cells + 1 ≤ R.cells) (hslots : slots + N ≤ R.slots) (d : decode cc pc = .ok (.newarray atype, 2))
    (hE : ∀ w2, WG w w2 [key] s.heap.size → E2 w2 key = .inl (w.2.2.2 t0, a0) ∧ ∀ k ∈ w.2.1, E2 w2 k = E k)
    (k : ∀ w2, WG w w2 [key] s.heap.size → Cx p l R s m args meth c cc nL own ret hh w2 → VE p l e R s m args below meth c (cells + 1) (slots + N) Q nL w2 (pc + 2) lv (.ref (w2.1 key) :: st) (E2 w2)) : VE p l e R s m args below meth c cells slots Q nL w pc lv (.int n :: st) E := fun H locs ls hP hS hL =>
  va_newa X.x X.b (X.wd harr rfl) hty X.k hP (WD X.wi s.heap.size E) hS (fun q h => Or.inr h) ha hn hN hbytes hcells hslots d (fun q cA H1 hK1 hP1 hD1 hS1 => by
    have hcA := cA_uq hK1 ht
    subst hcA
    have hG := grow1 hnk hD1
    have h2 := hE _ hG
    have h3 := k (wadd w key q) hG (X.grow hG (Nat.le_refl _)) H1 locs ls (Ad.P rfl hnk h2.1 h2.2 hP1) (va_S.grow hG (Nat.le_refl _) hS1) hL
    rw [show (wadd w key q).1 key = q by simp [wadd]] at h3
    exact h3)
theorem va_q0 {D : va_G} {cl : List vw_C} {q N : Nat} {cA : ClassId} {f : Nat → Option Nat} {H : Heap} (hf : ∀ j, j < N → f j = none) : va_at D cl (q, .inl (cA, (N, .inr (.inr (.inr (.inr f)))))) H ↔ va_at D cl (q, .inl (cA, (N, .inr (.inr (.inr (.inr (fun _ => none))))))) H := by
  have e : vp_cell cA (N, .inr (.inr (.inr (.inr f)))) = vp_cell cA (N, .inr (.inr (.inr (.inr (fun _ => none))))) := by
    rw [vp_cell_q, vp_cell_q]
    unfold arrV
    congr 1
    congr 1
    funext j
    show va_rf (f j.1) = va_rf none
    rw [hf j.1 j.2]
  unfold va_at
  dsimp only
  rw [e]
theorem r_newq (X : Cx p l R s m args meth c cc nL own ret hh w) {key : Nat × Nat} {C : String} {index t0 N : Nat} {n : Int32} {E2 : Wo → Nat × Nat → va_E} {f0 : Wo → Nat → Option Nat} (hf0 : ∀ w2 j, j < N → f0 w2 j = none) (hnk : key ∉ w.2.1) (ht : (tyl w.2.2.2)[t0]? = some (w.2.2.2 t0, .object C)) (hn : ¬ n < 0) (hN : n.toNatClampNeg = N) (hbytes : N * 4 ≤ 536870912) (hcl : Cond.classLink own index C ∈ lw_tbl) (hover : va_AO C s) (hcells : cells + 1 ≤ R.cells) (hslots : slots + N ≤ R.slots) (d : decode cc pc = .ok (.anewarray index, 3))
    (hE : ∀ w2, WG w w2 [key] s.heap.size → E2 w2 key = .inl (w.2.2.2 t0, (N, .inr (.inr (.inr (.inr (f0 w2)))))) ∧ ∀ k ∈ w.2.1, E2 w2 k = E k)
    (k : ∀ w2, WG w w2 [key] s.heap.size → Cx p l R s m args meth c cc nL own ret hh w2 → VE p l e R s m args below meth c (cells + 1) (slots + N) Q nL w2 (pc + 3) lv (.ref (w2.1 key) :: st) (E2 w2)) : VE p l e R s m args below meth c cells slots Q nL w pc lv (.int n :: st) E := fun H locs ls hP hS hL =>
  va_newq X.x X.b X.ow (X.wd hcl rfl) hover X.k hP (WD X.wi s.heap.size E) hS (fun q h => Or.inr h) hn hN hbytes hcells hslots d (fun q cA H1 hK1 hP1 hD1 hS1 => by
    have hcA := cA_uq hK1 ht
    subst hcA
    have hG := grow1 hnk hD1
    have h2 := hE _ hG
    have hP2 : va_P w.2.2.1 vwCl (WL w E ++ [(q, .inl (w.2.2.2 t0, (N, .inr (.inr (.inr (.inr (f0 (wadd w key q))))))))]) H1 := fun i x hx => by
      by_cases hi : i < (WL w E).length
      · exact hP1 i x (by rw [List.getElem?_append_left hi] at hx ⊢; exact hx)
      · have h5 : x = (q, .inl (w.2.2.2 t0, (N, .inr (.inr (.inr (.inr (f0 (wadd w key q)))))))) := by
          rw [List.getElem?_append_right (by omega)] at hx
          have hz : i - (WL w E).length < 1 := (List.getElem?_eq_some_iff.mp hx).1
          rw [show i - (WL w E).length = 0 by omega] at hx
          exact (Option.some.inj hx).symm
        have h6 := hP1 (WL w E).length (q, .inl (w.2.2.2 t0, (N, .inr (.inr (.inr (.inr (fun _ => none))))))) (by simp)
        subst h5
        exact (va_q0 (hf0 _)).mpr h6
    have h3 := k (wadd w key q) hG (X.grow hG (Nat.le_refl _)) H1 locs ls (Ad.P rfl hnk h2.1 h2.2 hP2) (va_S.grow hG (Nat.le_refl _) hS1) hL
    rw [show (wadd w key q).1 key = q by simp [wadd]] at h3
    exact h3)
theorem r_astq (X : Cx p l R s m args meth c cc nL own ret hh w) {key kv : Nat × Nat} {t0 ci n j : Nat} {r : vw_C} {vs : List Value} {f : Nat → Option Nat} {x : Int32} {E2 : Nat × Nat → va_E} (hk : key ∈ w.2.1) (hkv : kv ∈ w.2.1) (hEk : E key = .inl (w.2.2.2 t0, (n, .inr (.inr (.inr (.inr f)))))) (hEv : E kv = .inr (ci, vs)) (hc : vwCl[ci]? = some r) (ht : (tyl w.2.2.2)[t0]? = some (w.2.2.2 t0, .object r.1)) (hx : x = nI j) (hj : j < n) (hn : n < 2 ^ 31) (d : decode cc pc = .ok (.aastore, 1)) (he : eset E key (.inl (w.2.2.2 t0, (n, .inr (.inr (.inr (.inr (va_up f j (some (w.1 kv))))))))) = E2)
    (k : VE p l e R s m args below meth c cells slots Q nL w (pc + 1) lv st E2) : VE p l e R s m args below meth c cells slots Q nL w pc lv (.ref (w.1 kv) :: .int x :: .ref (w.1 key) :: st) E := fun H locs ls hP hS hL => by
  obtain ⟨q0, hq⟩ := WL_in hk
  obtain ⟨q1, hq1⟩ := WL_in hkv
  subst hx
  refine va_astq X.x X.b X.k hP (WD X.wi s.heap.size E) hS q0 t0 q1 ci (by rw [WL_get hq, hEk]) ht (by rw [WL_get hq1, hEv]) hc (vp_in_nI hj hn) d (fun H1 locs1 hP1 hD1 hS1 => k H1 locs1 ls ?_ hS1 hL)
  rw [nI_clamp (Nat.lt_trans hj hn), WL_set X.wi hq, he] at hP1
  exact hP1
theorem r_putF (X : Cx p l R s m args meth c cc nL own ret hh w) {key : Nat × Nat} {index j ci N : Nat} {T : u_T} {ty : Nat → FieldType} {fs : List Value} {v : Value} {E2 : Nat × Nat → va_E} (hin : meth.name = "<init>") (kc : KC ci own T N ty) (hk : key ∈ w.2.1) (hE : E key = .inr (ci, fs)) (hj : j < N) (hl : j < fs.length) (hw : Cond.fieldLink own index own (T j).2.1 (T j).2.2.1 ∈ lw_tbl) (hfin : (T j).2.2.2 = true) (hn : narrow (ty j) v = v) (hfit : fits (ty j) v = true) (d : decode cc pc = .ok (.putfield index, 3)) (he : eset E key (.inr (ci, fs.set j v)) = E2) (k : VE p l e R s m args below meth c cells slots Q nL w (pc + 3) lv (st) E2) : VE p l e R s m args below meth c cells slots Q nL w (pc) lv (v :: .ref (w.1 key) :: st) E := fun H locs ls hP hS hL => by
  obtain ⟨q0, hq⟩ := WL_in hk
  refine va_putF X.x X.b (Ts := u_ws own T N) (fun q h => X.wd (kc.2.1 q h).1 (kc.2.1 q h).2) (fun q h => h) ty kc.2.2.2.1 kc.2.2.2.2 X.ow X.k hP (WD X.wi s.heap.size E) hS q0 (by rw [WL_get hq, hE]) kc.1 j hj (X.wd hw rfl) (by rw [kc.2.2.1 j hj]; exact fun x h => h) hfin hin (kc.2.2.1 j hj) (kc.2.2.2.1 j hj) hn hfit hl d (fun H1 locs1 hP1 hD1 hS1 => k H1 locs1 ls ?_ hS1 hL)
  rw [WL_set X.wi hq, he] at hP1
  exact hP1
theorem r_objInit (X : Cx p l R s m args meth c cc nL own ret hh w) {index a : Nat} (hl1 : Cond.methodLink own index objectInit ∈ lw_tbl) (hl2 : Cond.instanceMethod objectInit ∈ lw_tbl) (hl3 : Cond.code objectInit ⟨#[0xb1]⟩ 1 none ∈ lw_tbl) (hfr : 1 ≤ R.frames) (hlo : (st.map fun v => v.category).sum + 12 ≤ R.locals) (d : decode cc pc = .ok (.invokespecial index, 3)) (k : VE p l e R s m args below meth c cells slots Q nL w (pc + 3) lv st E) : VE p l e R s m args below meth c cells slots Q nL w pc lv (.ref a :: st) E := fun H locs ls hP hS hL => by
  refine W.objInit X.x X.b X.ow (X.wd hl1 rfl) (X.wd hl2 rfl) (X.wd hl3 rfl) rfl (by rw [X.ml]; exact hL.1) rfl d hfr ?_ ?_
  · show 2 * 0 + _ + 12 ≤ _
    omega
  · exact k H locs ls hP hS hL
/-- the contract of a constructor: it makes the objects of the keys ks -/
def CTn (l : Launch) (y : MethodName) (ws : List Cond) (n mc ms : Nat) (w : Wo) (av : List Value) (K : State → Prop) (E : Nat × Nat → va_E) (ks : List (Nat × Nat)) (E2 : Wo → Nat × Nat → va_E) : Prop :=
  ∀ sz, Met l y ws (rmv n mc ms) (va_Pc av (fun U => (U.heap.size = sz ∧ Wd w E U) ∧ K U)) (va_Qv (fun w2 => WG w w2 ks sz) (fun w2 t => WH w2 (E2 w2) t.heap) (AA w sz)) mc ms (AA w sz)
def QN (w : Wo) (ks : List (Nat × Nat)) (E2 : Wo → Nat × Nat → va_E) (below : List Frame) (args : Array Value) (s : State) (mc ms : Nat) : State → Prop := MQ below (va_Qv (fun w2 => WG w w2 ks s.heap.size) (fun w2 t => WH w2 (E2 w2) t.heap) (AA w s.heap.size)) args s mc ms (AA w s.heap.size)
theorem tab_ex (L : List ExceptionTableEntry) : L = tableOf (L.map (fun x => (x.startPc, x.endPc, x.handlerPc, x.catchType))) := by
  unfold tableOf
  rw [List.map_map]
  induction L with
  | nil => rfl
  | cons x t ih => rw [List.map_cons, ← ih]; rfl
theorem CTn_of {y : MethodName} {maxL n nn mc ms : Nat} {av : List Value} {K : State → Prop} {ks : List (Nat × Nat)} {E2 : Wo → Nat × Nat → va_E} (hnt : l.stackTraces = false) (hwi : WI w) (hm : MWb y cc maxL none nn) (hav : ∀ v ∈ av, v.category = 1) (hlen : av.length ≤ maxL)
    (body : ∀ (p : Program) (e : Env) (s : State) (m : MethodId) (args : Array Value) (below : List Frame) (meth : Method) (c : Code) (hh : List (Nat × Nat × Nat × Nat)), Cx p l (rmv n mc ms) s m args meth c cc maxL y.cls none hh w → meth.name = y.name → K s → VE p l e (rmv n mc ms) s m args below meth c 0 0 (QN w ks E2 below args s mc ms) maxL w 0 (av.map some ++ List.replicate (maxL - av.length) none) [] E) : CTn l y [Cond.code y cc maxL none] n mc ms w av K E ks E2 := by
  intro sz
  refine Met.ofW (cc := cc) (maxL := maxL) (ret := none) hm.2.2.2.2.2 rfl ?_
  intro p e s m args below meth c s₁ B hml hv
  obtain ⟨rfl, ⟨hsz, hP, hK, hZ⟩, hKs⟩ := hv
  subst hsz
  have hl := LV.entry av maxL hav hlen
  rw [lg_entry_eq]
  exact body p e s m _ below meth c _ ⟨⟨B.exec, B.bytes, hml, findClass_of_methodNamed B.named⟩, ⟨B.notSynchronized, B.returns, tab_ex _, hnt⟩, hK, hwi, hZ⟩ (name_of_methodNamed B.named B.method).1 hKs s.heap [] _ hP va_S.rf hl
/-- the end of a constructor that began in the world w0 -/
theorem r_retN {w0 : Wo} {ks : List (Nat × Nat)} {E2 : Wo → Nat × Nat → va_E} {mc ms : Nat} (X : Cx p l R s m args meth c cc nL own none hh w) (hG : WG w0 w ks s.heap.size) (d : decode cc pc = .ok (.return_, 1)) (hc : cells ≤ mc) (hs : slots ≤ ms) (hE : ∀ k ∈ w.2.1, E k = E2 w k) : VE p l e R s m args below meth c cells slots (QN w0 ks E2 below args s mc ms) nL w pc lv [] E := fun H locs ls hP hS hL => by
  have hS0 : va_S (AA w0 s.heap.size) s.heap H locs := ⟨hS.1, fun q h1 h2 => hS.2.1 q h1 (fun z => h2 ((AA_grow hG (Nat.le_refl _) q).mp z)), fun l hl => (AA_grow hG (Nat.le_refl _) _).mp (hS.2.2 l hl)⟩
  rw [WL_cong hE] at hP
  exact W.widen hc hs (W.vret X.x X.b X.rt (fun t ht hW => ⟨⟨w, rfl, hG, by show va_P _ _ _ t.heap; rw [ht]; exact hP⟩, hS0.F ht⟩) hS0.2.2 d X.lk)
theorem r_callN {y : MethodName} {bytes : ByteArray} {maxL n n2 mc2 ms2 index : Nat} {key : Nat × Nat} {As rest st0 : List Value} {K : State → Prop} {ks : List (Nat × Nat)} {E2 : Wo → Nat × Nat → va_E} {host : String} (X : Cx p l R s m args meth c cc nL own ret hh w) (hC : CTn l y [Cond.code y bytes maxL none] n2 mc2 ms2 w (.ref (w.1 key) :: As) K E ks E2) (hKb : ∀ (U : State) g mk a, K U → K (U.calling g mk a)) (hKs : ∀ U : State, s.WarmedH U.vm → K U) (hm : MWb y bytes maxL none n) (hni : y.name = "<init>") (hi : Cond.instanceMethod y ∈ lw_tbl) (hl : Cond.methodLinkNest own index y host ∈ lw_tbl) (hn : As.length = n) (hst : st0 = As.reverse ++ .ref (w.1 key) :: rest) (hcat : (rest.map fun v => v.category).sum ≤ 8) (hfr : n2 + 1 ≤ R.frames) (hlo : 40 * n2 + 40 ≤ R.locals) (hcs : cells + mc2 ≤ R.cells) (hss : slots + ms2 ≤ R.slots) (d : decode cc pc = .ok (.invokespecial index, 3))
    (k : ∀ w2, WG w w2 ks s.heap.size → Cx p l R s m args meth c cc nL own ret hh w2 → VE p l e R s m args below meth c (cells + mc2) (slots + ms2) Q nL w2 (pc + 3) lv rest (E2 w2)) : VE p l e R s m args below meth c cells slots Q nL w pc lv st0 E := fun H locs ls hP hS hL =>
  va_callv (va_runIN X.cf (hC H.size) ⟨X.cn hm hl hfr hlo, hni, X.wd hi rfl⟩ ⟨fun a U g mk h => ⟨h.1, (CT_blind a U g mk ⟨h.1, h.2.1⟩).2, hKb U g mk a h.2.2⟩, fun U hU hW => ⟨rfl, (X.pre (av := .ref (w.1 key) :: As) hP hS U hU hW).2, hKs U hW⟩⟩ rfl hn hL.1 hst (lv_room hcat) d ⟨hcs, hss⟩) hS (fun q _ h => h.elim Or.inl (fun z => Or.inr (Nat.le_trans hS.1 z))) (fun q h => h.elim Or.inl (fun z => Or.inr (Nat.le_trans hS.1 z))) (fun w2 t H1 locs1 ht hvm hw hB hz hk hS1 => by
    have hG : WG w w2 ks s.heap.size := ⟨hw.1, hw.2.1, hw.2.2.1, fun k hk => Nat.le_trans hS.1 (hw.2.2.2.1 k hk), hw.2.2.2.2.1, hw.2.2.2.2.2⟩
    subst ht
    exact k w2 hG (X.grow hG (Nat.le_refl _)) t.heap locs1 ls hB (va_S.grow hG (Nat.le_refl _) hS1) hL)
theorem r_callI {y : MethodName} {bytes : ByteArray} {maxL n n2 mc2 ms2 index : Nat} {key : Nat × Nat} {As rest st0 : List Value} {K : State → Prop} {ks : List (Nat × Nat)} {E2 : Wo → Nat × Nat → va_E} (X : Cx p l R s m args meth c cc nL own ret hh w) (hC : CTn l y [Cond.code y bytes maxL none] n2 mc2 ms2 w (.ref (w.1 key) :: As) K E ks E2) (hKb : ∀ (U : State) g mk a, K U → K (U.calling g mk a)) (hKs : ∀ U : State, s.WarmedH U.vm → K U) (hm : MWb y bytes maxL none n) (hni : y.name = "<init>") (hi : Cond.instanceMethod y ∈ lw_tbl) (hl : Cond.methodLink own index y ∈ lw_tbl) (hn : As.length = n) (hst : st0 = As.reverse ++ .ref (w.1 key) :: rest) (hcat : (rest.map fun v => v.category).sum ≤ 8) (hfr : n2 + 1 ≤ R.frames) (hlo : 40 * n2 + 40 ≤ R.locals) (hcs : cells + mc2 ≤ R.cells) (hss : slots + ms2 ≤ R.slots) (d : decode cc pc = .ok (.invokespecial index, 3))
    (k : ∀ w2, WG w w2 ks s.heap.size → Cx p l R s m args meth c cc nL own ret hh w2 → VE p l e R s m args below meth c (cells + mc2) (slots + ms2) Q nL w2 (pc + 3) lv rest (E2 w2)) : VE p l e R s m args below meth c cells slots Q nL w pc lv st0 E := fun H locs ls hP hS hL =>
  va_callv (va_runI X.cf (hC H.size) ⟨X.cb hm hl hfr hlo, hni, X.wd hi rfl⟩ ⟨fun a U g mk h => ⟨h.1, (CT_blind a U g mk ⟨h.1, h.2.1⟩).2, hKb U g mk a h.2.2⟩, fun U hU hW => ⟨rfl, (X.pre (av := .ref (w.1 key) :: As) hP hS U hU hW).2, hKs U hW⟩⟩ rfl hn hL.1 hst (lv_room hcat) d ⟨hcs, hss⟩) hS (fun q _ h => h.elim Or.inl (fun z => Or.inr (Nat.le_trans hS.1 z))) (fun q h => h.elim Or.inl (fun z => Or.inr (Nat.le_trans hS.1 z))) (fun w2 t H1 locs1 ht hvm hw hB hz hk hS1 => by
    have hG : WG w w2 ks s.heap.size := ⟨hw.1, hw.2.1, hw.2.2.1, fun k hk => Nat.le_trans hS.1 (hw.2.2.2.1 k hk), hw.2.2.2.2.1, hw.2.2.2.2.2⟩
    subst ht
    exact k w2 hG (X.grow hG (Nat.le_refl _)) t.heap locs1 ls hB (va_S.grow hG (Nat.le_refl _) hS1) hL)
theorem WG.tr {w1 w2 w3 : Wo} {k1 k2 : List (Nat × Nat)} {sz : Nat} (h : WG w1 w2 k1 sz) (h2 : WG w2 w3 k2 sz) : WG w1 w3 (k1 ++ k2) sz :=
  ⟨by rw [h2.1, h.1, List.append_assoc], h2.2.1.trans h.2.1, fun k hk => (h2.2.2.1 k (by rw [h.1]; exact List.mem_append_left _ hk)).trans (h.2.2.1 k hk), fun k hk => by
    rcases List.mem_append.mp hk with h3 | h3
    · rw [h2.2.2.1 k (by rw [h.1]; exact List.mem_append_right _ h3)]; exact h.2.2.2.1 k h3
    · exact h2.2.2.2.1 k h3, h2.2.2.2.2.1, fun k hk => (h2.2.2.2.2.2 k (fun z => hk (List.mem_append_right _ z))).trans (h.2.2.2.2.2 k (fun z => hk (List.mem_append_left _ z)))⟩
theorem WG.rf {w : Wo} {sz : Nat} (h : WI w) : WG w w [] sz := ⟨by simp, rfl, fun _ _ => rfl, fun k hk => by simp at hk, h, fun _ _ => rfl⟩
end Grow
