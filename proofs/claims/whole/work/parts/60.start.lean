/-! THE LAW, from its entry -/
section Start
theorem ev_g3 {w w2 : Wo} (hc : w2.2.2 = w.2.2) {key k : Nat × Nat} (hk : key.1 = 3) (hg : ∀ k2, k2 ≠ key → w2.1 k2 = w.1 k2) (h3 : k.1 ≠ 3) : ev w2 Z0 Zg k = ev w Z0 Zg k := by
  have hd : ∀ c i, c ≠ 3 → w2.1 (c, i) = w.1 (c, i) := fun c i h => hg _ (fun z => by rw [← z] at hk; exact h hk)
  unfold ev
  rw [hd 9 k.2 (by omega), hd 4 0 (by omega), hd 5 0 (by omega), hd 6 0 (by omega), hd 7 0 (by omega), hd 8 0 (by omega), if_neg h3, if_neg h3, hc]
  simp only [hd 1 _ (by omega : 1 ≠ 3), hd 0 _ (by omega : 0 ≠ 3)]
theorem ev_gL {w w2 : Wo} (hc : w2.2.2 = w.2.2) {key : Nat × Nat} (hk : 40 ≤ key.1) (hg : ∀ k2, k2 ≠ key → w2.1 k2 = w.1 k2) (k : Nat × Nat) : ev w2 Z0 Zg k = ev w Z0 Zg k := by
  have hd : ∀ c i, c < 40 → w2.1 (c, i) = w.1 (c, i) := fun c i h => hg _ (fun z => by rw [← z] at hk; simp at hk; omega)
  unfold ev
  rw [hd 9 k.2 (by omega), hd 4 0 (by omega), hd 5 0 (by omega), hd 6 0 (by omega), hd 7 0 (by omega), hd 8 0 (by omega), hd 10 0 (by omega), hd 11 0 (by omega), hd 12 0 (by omega), hd 13 0 (by omega), hd 14 0 (by omega), hd 15 0 (by omega), hd 16 0 (by omega), hd 17 0 (by omega), hd 18 0 (by omega), hd 19 0 (by omega), hd 20 0 (by omega), hd 21 0 (by omega), hd 22 0 (by omega), hd 23 0 (by omega), hd 24 0 (by omega), hd 25 0 (by omega), hd 26 0 (by omega), hd 27 0 (by omega), hd 28 0 (by omega), hd 29 0 (by omega), hd 30 0 (by omega), hd 31 0 (by omega), hc]
  simp only [hd 1 _ (by omega : 1 < 40), hd 0 _ (by omega : 0 < 40)]
theorem st_words : ∀ q ∈ SW, Cond.stringRef "Entitled" q.1 q.2 ∈ lw_tbl ∧ Cond.exactly (.string "Entitled" q.1) "java/lang/String" ∈ flatC (Jvm.Cond.and given_1 narrow_1) := by decide +kernel
theorem nc_words : ∀ q ∈ NCs, Cond.not (.castable q.1 q.2) ∈ flatC (Jvm.Cond.and given_1 narrow_1) := by decide +kernel
theorem zq_words : (Cond.laysStatic Bundle.tN "UNASSIGNED_STACK" Bundle.steD ∈ lw_tbl ∧ Cond.laysStatic Bundle.tN "SUPPRESSED_SENTINEL" Bundle.listD ∈ lw_tbl ∧ Cond.initialized Bundle.tN ∈ lw_tbl) ∧ Cond.isRef (.static Bundle.tN "UNASSIGNED_STACK" Bundle.steD) ∈ flatC (Jvm.Cond.and given_1 narrow_1) ∧ Cond.isRef (.static Bundle.tN "SUPPRESSED_SENTINEL" Bundle.listD) ∈ flatC (Jvm.Cond.and given_1 narrow_1) := by decide +kernel
/-- the tables at the law's entry: an empty world -/
theorem st_world {s : State} {b : Nat} (hts : ∀ w ∈ lw_tbl, w.before #[Value.ref b] s = true) (hgv : (Jvm.Cond.and given_1 narrow_1).before #[Value.ref b] s = true) : ∃ w : Wo, w.2.1 = [] ∧ KW w s ∧ HZ w s s.heap ∧ KQ s := by
  have hfl := flat_of_before _ hgv
  obtain ⟨c0, i0, k0⟩ := u_known (C := RX0) (T := TX0) (N := 13) (n := 13) hts (fun q h => (kc0.2.1 q h).1) (hts _ wn_X0)
  obtain ⟨c1, i1, k1⟩ := u_known (C := RX1) (T := TX1) (N := 8) (n := 8) hts (fun q h => (kc1.2.1 q h).1) (hts _ wn_X1)
  obtain ⟨c2, i2, k2⟩ := u_known (C := RX2) (T := TX2) (N := 10) (n := 10) hts (fun q h => (kc2.2.1 q h).1) (hts _ wn_X2)
  obtain ⟨c3, i3, k3⟩ := u_known (C := RX3) (T := TX3) (N := 28) (n := 28) hts (fun q h => (kc3.2.1 q h).1) (hts _ wn_X3)
  obtain ⟨a0, ka0, p0, x0, y0, z0⟩ := Cond.arrayClass_spec (hts _ wa_I)
  obtain ⟨a1, ka1, p1, x1, y1, z1⟩ := Cond.arrayClass_spec (hts _ wa_B)
  obtain ⟨a2, ka2, p2, x2, y2, z2⟩ := Cond.arrayClass_spec (hts _ wa_C)
  obtain ⟨a3, ka3, p3, x3, y3, z3⟩ := Cond.arrayClass_spec (hts _ wa_L)
  obtain ⟨a4, ka4, p4, x4, y4, z4⟩ := Cond.arrayClass_spec (hts _ wa_D)
  obtain ⟨p5, a5, ka5, o5, -, y5, z5, x5⟩ := Cond.arrayOver_spec (hts _ wq_0)
  obtain ⟨p6, a6, ka6, o6, -, y6, z6, x6⟩ := Cond.arrayOver_spec (hts _ wq_1)
  refine ⟨(fun _ => 0, [], ((fun k => if k = 0 then c0 else if k = 1 then c1 else if k = 2 then c2 else c3), (fun k => if k = 0 then i0 else if k = 1 then i1 else if k = 2 then i2 else i3)), fun k => if k = 0 then a0 else if k = 1 then a1 else if k = 2 then a2 else if k = 3 then a3 else if k = 4 then a4 else if k = 5 then a5 else a6), rfl, ⟨fun w hm hg => gw_warm hg (State.WarmedH.refl s) (hts w hm), ⟨fun k q hq => ?_, fun k q hq => ?_⟩, fun q hq => ?_, fun q hq => va_Nc.of (hfl _ (nc_words q hq))⟩, ⟨?_, ?_⟩, va_AO.of (hts _ wq_1), va_AO.of (hts _ wq_0)⟩
  · match k, hq with
    | 0, hq => cases hq; exact k0
    | 1, hq => cases hq; exact k1
    | 2, hq => cases hq; exact k2
    | 3, hq => cases hq; exact k3
    | k + 4, hq => simp [vwCl] at hq
  · match k, hq with
    | 0, hq => cases hq; exact ⟨fun n z => ⟨fun k h => (by cases h), ka0, y0, p0, z0⟩, x0⟩
    | 1, hq => cases hq; exact ⟨fun n z => ⟨fun k h => (by cases h), ka1, y1, p1, z1⟩, x1⟩
    | 2, hq => cases hq; exact ⟨fun n z => ⟨fun k h => (by cases h), ka2, y2, p2, z2⟩, x2⟩
    | 3, hq => cases hq; exact ⟨fun n z => ⟨fun k h => (by cases h), ka3, y3, p3, z3⟩, x3⟩
    | 4, hq => cases hq; exact ⟨fun n z => ⟨fun k h => (by cases h), ka4, y4, p4, z4⟩, x4⟩
    | 5, hq => cases hq; exact ⟨fun n z => ⟨fun k h => (by cases h), ka5, y5, p5, z5⟩, ka5, p5, y5, z5, o5, x5⟩
    | 6, hq => cases hq; exact ⟨fun n z => ⟨fun k h => (by cases h), ka6, y6, p6, z6⟩, ka6, p6, y6, z6, o6, x6⟩
    | k + 7, hq => simp [tyl] at hq
  · obtain ⟨h1, h2⟩ := st_words q hq
    obtain ⟨sa, c, cell, k, e1, -⟩ := Cond.exactly_spec (hfl _ h2)
    exact ⟨sa, vk_R.of (hts _ h1) e1⟩
  · exact vx_Zqof (hts _ zq_words.1.1) (hts _ zq_words.1.2.2) (hfl _ zq_words.2.1) (fun a _ h => by obtain ⟨k, h1, -⟩ := h; simp at h1)
  · exact vx_Zqof (hts _ zq_words.1.2.1) (hts _ zq_words.1.2.2) (hfl _ zq_words.2.2) (fun a _ h => by obtain ⟨k, h1, -⟩ := h; simp at h1)
theorem INV_0 : INV Z0 := by
  have hl : lf Z0 0 = 0 := su_0 12 (fun i _ => if_neg (fun z => z.2 rfl))
  refine ⟨0, 0, ?_, fun i _ => ⟨⟨Rg_n (n := 0) (by omega) (by omega), Rg_n (n := 0) (by omega) (by omega), Rg_n (n := 0) (by omega) (by omega), Rg_n (n := 0) (by omega) (by omega), Rg_n (n := 0) (by omega) (by omega)⟩, fun h => by omega, fun _ => ⟨rfl, rfl⟩⟩, fun e _ => ⟨⟨Rg_n (n := 0) (by omega) (by omega), Rg_n (n := 0) (by omega) (by omega), Rg_n (n := 0) (by omega) (by omega)⟩, ⟨rfl, rfl, rfl⟩, fun h => by omega, fun _ => rfl⟩⟩
  rw [hl]
  exact ⟨⟨rfl, rfl, rfl, rfl, rfl, rfl⟩, by omega, by omega, by omega⟩
def kAll : List (Nat × Nat) := [(2, 0)] ++ kC ++ [(3, 0)] ++ kM 22 ++ [(40, 0)] ++ [(41, 0)]
theorem kAll_ok : ∀ (c : Fin 42) (i : Fin 12), i.val < cnt c.val → (c.val, i.val) ∈ kAll := by decide +kernel
theorem kAll_all (c i : Nat) (h : i < cnt c) : (c, i) ∈ kAll := by
  have hc : c < 42 := by
    by_cases hc : c < 42
    · exact hc
    · unfold cnt at h
      rw [if_neg (by omega), if_neg (by omega), if_neg (by omega), if_neg (by omega), if_neg (by omega), if_neg (by omega)] at h
      omega
  have hi : i < 12 := by
    unfold cnt at h
    split at h
    · omega
    · split at h
      · omega
      · split at h
        · omega
        · split at h
          · omega
          · split at h
            · omega
            · split at h <;> omega
  exact kAll_ok ⟨c, hc⟩ ⟨i, hi⟩ h
def f3L : List Value := [.int 0, .int 0, .int 0, .int 0, .int 0, .long 0, .null, .null, .null, .null, .null, .null, .null, .null, .null, .null, .null, .null, .null, .null, .null, .null, .null, .null, .null, .null, .null, .null]
set_option maxHeartbeats 4000000 in
set_option maxRecDepth 100000 in
/-- THE LAW, from its entry -/
theorem whole_start {p : Program} {e : Env} {s : State} {m : MethodId} {below : List Frame} {meth : Method} {c : Code} (l : Launch) (hflags : l.flags = flags0) {b L : Nat} {xs : Nat → Int32} (hL : L ≤ 4096) (C0 : lw_At p s m meth c b L xs) : W p l e room_1 s m #[Value.ref b] below meth c s.heap [] 0 0 (lw_Z below #[Value.ref b] s) (entryFrame m ([Value.ref b] : List Value).toArray 8) := by
  obtain ⟨hx, hb, hr, hml, hown, hts, hXs, hbl, hlocks, hgv⟩ := id C0
  have hnt : l.stackTraces = false := by unfold Launch.stackTraces; rw [hflags]; decide
  obtain ⟨w0, hw0, hKW, hHZ, hKQ⟩ := st_world hts hgv
  have hwi : WI w0 := fun i j k k2 h1 _ _ => by rw [hw0] at h1; simp at h1
  have X : Cx p l room_1 s m #[Value.ref b] meth c cL_law 8 RL (some .boolean) _ w0 := ⟨⟨hx, hb, hml, hown⟩, ⟨hlocks, hr, tab_ex _, hnt⟩, hKW, hwi, hHZ⟩
  have hl := LV.entry [Value.ref b] 8 (by simp [Value.category]) (Nat.le_of_ble_eq_true rfl)
  rw [lg_entry_eq]
  have hG0 := WG.rf (w := w0) (sz := s.heap.size) hwi
  have hP0 : va_P w0.2.2.1 vwCl (WL w0 (fun _ => jk)) s.heap := fun k q h => by unfold WL at h; rw [hw0] at h; simp at h
  revert hP0 hl
  intro hl hP0
  refine (?_ : VE p l e room_1 s m #[Value.ref b] below meth c 0 0 (lw_Z below #[Value.ref b] s) 8 w0 0 [some (.ref b), none, none, none, none, none, none, none] [] (fun _ => jk)) s.heap [] _ hP0 va_S.rf hl
  refine r_new X (key := (2, 0)) (ci := 2) (N := 10) (C := RX2) (T := TX2) (ty := tyX2) (fs := [.null, .null, .int 0, .int 0, .int 0, .long 0, .null, .null, .null, .int 0]) (E2 := fun w2 => eC w2 0 0 0 0) kc2 (by rw [hw0]; simp) (fun j hj => by rcases (show j = 0 ∨ j = 1 ∨ j = 2 ∨ j = 3 ∨ j = 4 ∨ j = 5 ∨ j = 6 ∨ j = 7 ∨ j = 8 ∨ j = 9 by omega) with rfl | rfl | rfl | rfl | rfl | rfl | rfl | rfl | rfl | rfl <;> rfl) wc_L_8 wn_X2 wi_RX2 (Nat.le_of_ble_eq_true rfl) (Nat.le_of_ble_eq_true rfl) dL_law_0 (fun w2 hG => ⟨rfl, fun k hk => by rw [hw0] at hk; simp at hk⟩) (fun w2 hG2 X2 => ?_)
  have h20 : w2.2.1 = [(2, 0)] := by rw [hG2.1, hw0]; rfl
  refine r_dup X2 dL_law_3 rfl ?_
  refine r_callI X2 (key := (2, 0)) (rest := [.ref (w2.1 (2, 0))]) (c_X2_init hnt X2.wi h20) (fun U g mk a h => ⟨va_AO.moved (Vm.Alike.refl U.vm) h.1, va_AO.moved (Vm.Alike.refl U.vm) h.2⟩) (fun U hW => ⟨va_AO.moved hW.alike hKQ.1, va_AO.moved hW.alike hKQ.2⟩) mw_X2_init rfl mi_X2_init ml_L_104 rfl rfl (by simp [Value.category]) (Nat.le_of_ble_eq_true rfl) (Nat.le_of_ble_eq_true rfl) (Nat.le_of_ble_eq_true rfl) (Nat.le_of_ble_eq_true rfl) dL_law_4 (fun w3 hG3 X3 => ?_)
  have hT3 := (hG0.tr hG2).tr hG3
  have e2 : w2.1 (2, 0) = w3.1 (2, 0) := (hG3.2.2.1 _ (by rw [h20]; simp)).symm
  rw [e2]
  refine r_astore_n X3 dL_law_7 (i := 1) rfl (by decide) (lv2 := [some (.ref b), some (.ref (w3.1 (2, 0))), none, none, none, none, none, none]) rfl ?_
  have h30 : w3.2.1 = [(2, 0)] ++ kC := by rw [hG3.1, h20]
  have hk3 : ∀ k ∈ w3.2.1, k.1 < 10 ∧ k.1 ≠ 3 := by
    rw [h30]
    decide +kernel
  refine r_new X3 (key := (3, 0)) (ci := 3) (N := 28) (C := RX3) (T := TX3) (ty := tyX3) (fs := f3L) (E2 := fun w2 => eM w2 0) kc3 (fun z => (hk3 _ z).2 rfl) (fun j hj => by rcases (show j = 0 ∨ j = 1 ∨ j = 2 ∨ j = 3 ∨ j = 4 ∨ j = 5 ∨ j = 6 ∨ j = 7 ∨ j = 8 ∨ j = 9 ∨ j = 10 ∨ j = 11 ∨ j = 12 ∨ j = 13 ∨ j = 14 ∨ j = 15 ∨ j = 16 ∨ j = 17 ∨ j = 18 ∨ j = 19 ∨ j = 20 ∨ j = 21 ∨ j = 22 ∨ j = 23 ∨ j = 24 ∨ j = 25 ∨ j = 26 ∨ j = 27 by omega) with rfl | rfl | rfl | rfl | rfl | rfl | rfl | rfl | rfl | rfl | rfl | rfl | rfl | rfl | rfl | rfl | rfl | rfl | rfl | rfl | rfl | rfl | rfl | rfl | rfl | rfl | rfl | rfl <;> rfl) wc_L_105 wn_X3 wi_RX3 (Nat.le_of_ble_eq_true rfl) (Nat.le_of_ble_eq_true rfl) dL_law_8 (fun w4 hG => ⟨rfl, fun k hk => ?_⟩) (fun w4 hG4 X4 => ?_)
  · have h3 := (hk3 k hk).2
    unfold eM
    rw [if_neg (fun z => h3 (by rw [z])), if_neg h3]
    exact ev_g3 hG.2.1 (key := (3, 0)) rfl (fun k2 h2 => hG.2.2.2.2.2 k2 (by simpa using h2)) h3
  have hT4 := hT3.tr hG4
  have e24 : w3.1 (2, 0) = w4.1 (2, 0) := (hG4.2.2.2.2.2 _ (by simp)).symm
  rw [e24]
  have h40 : w4.2.1 = [(2, 0)] ++ kC ++ [(3, 0)] := by rw [hG4.1, h30]
  refine r_dup X4 dL_law_11 rfl ?_
  refine r_callI X4 (key := (3, 0)) (rest := [.ref (w4.1 (3, 0))]) (c_X3_init hnt X4.wi (by rw [h40]; decide +kernel) (by rw [h40]; decide +kernel)) (fun _ _ _ _ h => h) (fun _ _ => trivial) mw_X3_init rfl mi_X3_init ml_L_107 rfl rfl (by simp [Value.category]) (Nat.le_of_ble_eq_true rfl) (Nat.le_of_ble_eq_true rfl) (Nat.le_of_ble_eq_true rfl) (Nat.le_of_ble_eq_true rfl) dL_law_12 (fun w5 hG5 X5 => ?_)
  have hT5 := hT4.tr hG5
  have hne : ∀ c i, c < 10 → (c, i) ∉ kM 22 := fun c i h z => by have h9 := (kM_m.mp z).2.1; have h10 : 10 ≤ c := h9; omega
  have e25 : w4.1 (2, 0) = w5.1 (2, 0) := (hG5.2.2.2.2.2 _ (hne 2 0 (by omega))).symm
  have e35 : w4.1 (3, 0) = w5.1 (3, 0) := (hG5.2.2.2.2.2 _ (hne 3 0 (by omega))).symm
  rw [e25, e35]
  refine r_astore_n X5 dL_law_15 (i := 2) rfl (by decide) (lv2 := [some (.ref b), some (.ref (w5.1 (2, 0))), some (.ref (w5.1 (3, 0))), none, none, none, none, none]) rfl ?_
  have h50 : w5.2.1 = [(2, 0)] ++ kC ++ [(3, 0)] ++ kM 22 := by rw [hG5.1, h40]
  refine VE_cong (E2 := ev w5 Z0 Zg) (fun k hk => ?_) ?_
  · have h3 : k.1 = 3 → k = (3, 0) := by
      rw [h50] at hk
      exact (show ∀ k ∈ [(2, 0)] ++ kC ++ [(3, 0)] ++ kM 22, k.1 = 3 → k = (3, 0) by decide +kernel) k hk
    unfold eM
    by_cases hk3 : k = (3, 0)
    · subst hk3; rfl
    · rw [if_neg hk3, if_neg (fun z => hk3 (h3 z))]
  refine r_iconst X5 dL_law_16 (v := nI 1) (by decide) ?_
  refine r_newa X5 (key := (40, 0)) (atype := .long) (ty := .long) (t0 := 3) (N := 1) (a0 := (1, .inr (.inl (fun _ => 0)))) (E2 := fun w2 => ev w2 Z0 Zg) (by rw [h50]; decide +kernel) rfl rfl (fun _ => rfl) (by decide) (by decide) (Nat.le_of_ble_eq_true rfl) wa_L (Nat.le_of_ble_eq_true rfl) (Nat.le_of_ble_eq_true rfl) dL_law_17 (fun w6 hG => ⟨by rw [← hG.2.1]; rfl, fun k _ => ev_gL hG.2.1 (key := (40, 0)) (by decide) (fun k2 h2 => hG.2.2.2.2.2 k2 (by simpa using h2)) k⟩) (fun w6 hG6 X6 => ?_)
  have hT6 := hT5.tr hG6
  have e26 : w5.1 (2, 0) = w6.1 (2, 0) := (hG6.2.2.2.2.2 _ (by simp)).symm
  have e36 : w5.1 (3, 0) = w6.1 (3, 0) := (hG6.2.2.2.2.2 _ (by simp)).symm
  rw [e26, e36]
  have h60 : w6.2.1 = [(2, 0)] ++ kC ++ [(3, 0)] ++ kM 22 ++ [(40, 0)] := by rw [hG6.1, h50]
  refine r_astore_n X6 dL_law_19 (i := 3) rfl (by decide) (lv2 := [some (.ref b), some (.ref (w6.1 (2, 0))), some (.ref (w6.1 (3, 0))), some (.ref (w6.1 (40, 0))), none, none, none, none]) rfl ?_
  refine r_iconst X6 dL_law_20 (v := nI 1) (by decide) ?_
  refine r_newa X6 (key := (41, 0)) (atype := .double) (ty := .double) (t0 := 4) (N := 1) (a0 := (1, .inr (.inr (.inr (.inl (fun _ => 0)))))) (E2 := fun w2 => ev w2 Z0 Zg) (by rw [h60]; decide +kernel) rfl rfl (fun _ => rfl) (by decide) (by decide) (Nat.le_of_ble_eq_true rfl) wa_D (Nat.le_of_ble_eq_true rfl) (Nat.le_of_ble_eq_true rfl) dL_law_21 (fun w7 hG => ⟨by rw [← hG.2.1]; rfl, fun k _ => ev_gL hG.2.1 (key := (41, 0)) (by decide) (fun k2 h2 => hG.2.2.2.2.2 k2 (by simpa using h2)) k⟩) (fun w7 hG7 X7 => ?_)
  have hT7 := hT6.tr hG7
  have e27 : w6.1 (2, 0) = w7.1 (2, 0) := (hG7.2.2.2.2.2 _ (by simp)).symm
  have e37 : w6.1 (3, 0) = w7.1 (3, 0) := (hG7.2.2.2.2.2 _ (by simp)).symm
  have e47 : w6.1 (40, 0) = w7.1 (40, 0) := (hG7.2.2.2.2.2 _ (by simp)).symm
  rw [e27, e37, e47]
  have h70 : w7.2.1 = kAll := by rw [hG7.1, h60]; rfl
  have hfr : ∀ k ∈ w7.2.1, s.heap.size ≤ w7.1 k := fun k hk => hT7.2.2.2.1 k (by
    have h8 := hT7.1
    rw [hw0, List.nil_append] at h8
    rw [← h8]; exact hk)
  refine r_astore X7 dL_law_23 (by decide) (lv2 := [some (.ref b), some (.ref (w7.1 (2, 0))), some (.ref (w7.1 (3, 0))), some (.ref (w7.1 (40, 0))), some (.ref (w7.1 (41, 0))), none, none, none]) rfl ?_
  refine r_iconst X7 dL_law_25 (v := nI 0) (by decide) ?_
  refine r_istore X7 dL_law_26 (by decide) (lv2 := lvL w7 b (nI (8 * 0)) none none) rfl ?_
  have hbA : ¬ AA w7 s.heap.size b := by
    rintro (⟨k, h1, h2⟩ | h1)
    · have := hfr k h1; omega
    · omega
  have hX7 : LX p l s m #[Value.ref b] meth c _ w7 b L xs := ⟨X7, ⟨X7.wi, fun c i h => by rw [h70]; exact kAll_all c i h⟩, hnt, hXs, hbl, hbA, hL⟩
  refine lw_loop hX7 (Nat.le_of_ble_eq_true rfl) (Nat.le_of_ble_eq_true rfl) (fun M G i cells slots hc hs => ?_) 512 0 Z0 Zg _ _ (by omega) (by omega) (by omega) (Nat.le_of_ble_eq_true rfl) (Nat.le_of_ble_eq_true rfl) INV_0 rfl
  refine r_iconst X7 dL_law_1941 (v := nI 1) (by decide) ?_
  intro H locs ls hP hS hLv
  refine W.widen (k := 647978) (n := 7152170) (by omega) (by omega) ?_
  refine va_forget (fun q hq => ?_) ?_
  · rcases hS.2.2 q hq with ⟨k, h1, h2⟩ | h1
    · rw [← h2]; exact hfr k h1
    · exact h1
  · exact W.base (lw_ret (Drawn.sameBut.refl s.drawn lw_cs) hx hb hr hlocks dL_law_1942)
end Start
