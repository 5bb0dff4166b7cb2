/-! THE MODEL: its searches and questions -/
section N3
def kvG (f : Nat → Int32 → Int32 → Mem → Mem) (i : Nat) (many left : Int32) (e : Nat) (A : Mem) : Mem :=
  if fim A e i = true then
    if (!decide (ndM (ms A 29 0 i (nI e)) e 24 0 e < ndV (ms A 29 0 i (nI e)) e)) = true then f (i + 1) (many + nI 1) (left - nI 1) (ndM (ms A 29 0 i (nI e)) e) else ndM (ms A 29 0 i (nI e)) e
  else A
def kv : Nat → Nat → Int32 → Int32 → Mem → Mem
  | 0 => fun _ many left M => if M 3 0 4 < many + left then tkN (ms M 3 0 4 many) else M
  | d + 1 => fun i many left M => if M 3 0 4 < many + left then (if M 17 0 i = 0 then kv d (i + 1) many (left - nI 1) (ms (itn (kvG (kv d) i many left) (ix (M 3 0 3)) M) 29 0 i (-1)) else kv d (i + 1) many left M) else M
def bsG (f : Nat → Mem → Mem) (i e : Nat) (A : Mem) : Mem := if fim A e i = true then f (i + 1) (ms A 29 0 i (nI e)) else A
def bs : Nat → Nat → Mem → Mem
  | 0 => fun _ M => if csM M 3 0 4 = -1 ∨ csV M (ix (M 3 0 3)) < csM M 3 0 4 then tkN (ms (csM M) 3 0 4 (csV M (ix (M 3 0 3)))) else csM M
  | d + 1 => fun i M => if csM M 3 0 4 = -1 ∨ csV M (ix (M 3 0 3)) < csM M 3 0 4 then (if csM M 17 0 i = 0 then ms (itn (bsG (bs d) i) (ix (M 3 0 3)) (csM M)) 29 0 i (-1) else bs d (i + 1) (csM M)) else csM M
theorem Mm_kv : ∀ {d i : Nat} {a b : Int32} {M M1 : Mem}, Mm M M1 → Mm M (kv d i a b M1)
  | 0, i, a, b, M, M1, h => by
    unfold kv; split
    · exact Mm_tk (Mm_ms h rfl)
    · exact h
  | d + 1, i, a, b, M, M1, h => by
    unfold kv; split
    · split
      · refine Mm_kv (Mm_ms (Mm_itn (fun e A hA => ?_) h _) rfl)
        unfold kvG; split
        · split
          · exact Mm_kv (Mm_nd (Mm_ms hA rfl))
          · exact Mm_nd (Mm_ms hA rfl)
        · exact hA
      · exact Mm_kv h
    · exact h
theorem Mm_bs : ∀ {d i : Nat} {M M1 : Mem}, Mm M M1 → Mm M (bs d i M1)
  | 0, i, M, M1, h => by
    unfold bs; split
    · exact Mm_tk (Mm_ms (Mm_cs h) rfl)
    · exact Mm_cs h
  | d + 1, i, M, M1, h => by
    unfold bs; split
    · split
      · refine Mm_ms (Mm_itn (fun e A hA => ?_) (Mm_cs h) _) rfl
        unfold bsG; split
        · exact Mm_bs (Mm_ms hA rfl)
        · exact hA
      · exact Mm_bs (Mm_cs h)
    · exact Mm_cs h
theorem DM_kv {d i : Nat} {a b : Int32} {M : Mem} (h : DM M) : DM (kv d i a b M) := h.mm (Mm_kv Mm.rf)
theorem DM_bs {d i : Nat} {M : Mem} (h : DM M) : DM (bs d i M) := h.mm (Mm_bs Mm.rf)
/-- .. with the numbers of installs made and of entitlements -/
def DN (mn en : Nat) (M : Mem) : Prop := DM M ∧ M 3 0 1 = nI mn ∧ M 3 0 3 = nI en ∧ mn < 13 ∧ en < 6
theorem DN.mm {mn en : Nat} {M M1 : Mem} (h : DN mn en M) (hs : Mm M M1) : DN mn en M1 := ⟨h.1.mm hs, (hs 3 0 1 rfl).trans h.2.1, (hs 3 0 3 rfl).trans h.2.2.1, h.2.2.2⟩
theorem DN.of {M : Mem} (h : DM M) : DN (ix (M 3 0 1)) (ix (M 3 0 3)) M := ⟨h, h.1.1, h.2.2.1.1, h.1.2, h.2.2.1.2⟩
theorem DN.em {mn en : Nat} {M : Mem} (h : DN mn en M) : ix (M 3 0 3) = en := by rw [h.2.2.1, ixn (by have := h.2.2.2.2; omega)]
theorem DN_ms {mn en : Nat} {M : Mem} {c i k : Nat} {v : Int32} (hc : scm c k = true) (h : DN mn en M) : DN mn en (ms M c i k v) := h.mm (Mm_ms Mm.rf hc)
theorem DN_nd {mn en : Nat} {M : Mem} {e : Nat} (h : DN mn en M) : DN mn en (ndM M e) := h.mm (Mm_nd Mm.rf)
theorem DN_kv {mn en : Nat} {d i : Nat} {a b : Int32} {M : Mem} (h : DN mn en M) : DN mn en (kv d i a b M) := h.mm (Mm_kv Mm.rf)
theorem DN_bs {mn en : Nat} {d i : Nat} {M : Mem} (h : DN mn en M) : DN mn en (bs d i M) := h.mm (Mm_bs Mm.rf)
theorem DN_cs {mn en : Nat} {M : Mem} (h : DN mn en M) : DN mn en (csM M) := h.mm (Mm_cs Mm.rf)
theorem DN_bg {mn en : Nat} {M : Mem} (h : DN mn en M) : DN mn en (bgN M) := h.mm (Mm_bg Mm.rf)
def coM (M : Mem) : Mem := ptN (kv (ix (M 3 0 1)) 0 (nI 0) (bgN M 3 0 2) (bgN M))
theorem Mm_co {M M1 : Mem} (h : Mm M M1) : Mm M (coM M1) := Mm_pt (Mm_kv (Mm_bg h))
theorem DM_co {M : Mem} (h : DM M) : DM (coM M) := h.mm (Mm_co Mm.rf)
def npF (M : Mem) : Nat → Nat → Bool
  | 0, _ => true
  | n + 1, i => (!decide (M 17 0 i = 0) || !decide (cfm M i (ix (M 3 0 3)) ≤ 0)) && npF M n (i + 1)
def npA (M : Mem) : Bool := npF M (ix (M 3 0 1)) 0
def puM (M : Mem) : Mem := ptN (bs (ix (M 3 0 1)) 0 (bgN (ms M 3 0 0 (nI 0))))
theorem Mm_pu {M M1 : Mem} (h : Mm M M1) : Mm M (puM M1) := Mm_pt (Mm_bs (Mm_bg (Mm_ms h rfl)))
theorem DM_pu {M : Mem} (h : DM M) : DM (puM M) := h.mm (Mm_pu Mm.rf)
set_option maxHeartbeats 4000000 in
set_option maxRecDepth 100000 in
theorem lp_X3_covers {p : Program} {l : Launch} {e : Env} {s : State} {m : MethodId} {args : Array Value} {below : List Frame} {meth : Method} {c : Code} {w : Wo} {G : Lng} {d mn en : Nat} {i : Nat} {many left : Int32} {M : Mem} (hnt : l.stackTraces = false) (hw : WK w) (X : Cx p l (rmv (10 + (d + 1)) 0 0) s m args meth c cX3_covers 5 yX3_covers.cls none [] w) (ihC : ∀ (i : Nat) (many left : Int32) (M : Mem), i + d = mn → DN mn en M → CT l yX3_covers [Cond.code yX3_covers cX3_covers 5 none] (10 + d) 0 0 w [.ref (w.1 (3, 0)), .int (nI i), .int many, .int left] M G (okO none (kv d i many left M) G)) (hi : i + (d + 1) = mn) (hmn : mn < 13) (hen : en < 6) : ∀ (n k : Nat) (M1 : Mem), k + n = en → M1 = itn (kvG (kv d) i many left) k M → DN mn en M1 → VE p l e (rmv (10 + (d + 1)) 0 0) s m args below meth c (0) (0) (QV w (okO none (kv d (i + 1) many (left - nI 1) (ms (itn (kvG (kv d) i many left) en M) 29 0 i (-1))) G) below args s 0 0) 5 w 51 [some (.ref (w.1 (3, 0))), some (.int (nI i)), some (.int many), some (.int left), some (.int (nI k))] [] (ev w M1 G) := by
  intro n
  induction n with
  | zero =>
    intro k M1 hk hM hN1
    have hD1 := hN1.1
    obtain rfl : k = en := by omega
    refine r_iload X dX3_covers_51 rfl ?_
    refine r_aload_n X dX3_covers_53 (i := 0) rfl rfl ?_
    refine r_get X kc3 (j := 3) (hw.2 _ _ (by first | decide | (simp [cnt] <;> omega))) ev3 (by decide) rfl fl_X3_86 dX3_covers_54 ?_
    refine r_icmpr_ge X dX3_covers_57 (tgt := 109) (by decide) (by with_reducible rfl) (hN1.2.2.1) (by omega) (by omega) (fun h1 => ?_) (fun h1 => ?_)
    · refine r_aload_n X dX3_covers_109 (i := 0) rfl rfl ?_
      refine r_get X kc3 (j := 25) (hw.2 _ _ (by first | decide | (simp [cnt] <;> omega))) ev3 (by decide) rfl fl_X3_69 dX3_covers_110 ?_
      refine r_iload_n X dX3_covers_113 (i := 1) rfl rfl ?_
      refine r_iconst X dX3_covers_114 (v := -1) (by decide) ?_
      refine r_iast X (hw.2 _ _ (by first | decide | (simp [cnt] <;> omega))) (evA (by decide) (by decide)) (by first | with_reducible rfl | with_reducible assumption | (rw [pk_mul, nI_add])) (by first | with_reducible assumption | (simp [alen] <;> omega)) (by decide) rfl dX3_covers_115 (esA (by decide) (by decide)) ?_
      refine r_aload_n X dX3_covers_116 (i := 0) rfl rfl ?_
      refine r_iload_n X dX3_covers_117 (i := 1) rfl rfl ?_
      refine r_iconst X dX3_covers_118 (v := nI 1) (by decide) ?_
      refine r_iadd X dX3_covers_119 ?_
      rw [nI_add]
      refine r_iload_n X dX3_covers_120 (i := 2) rfl rfl ?_
      refine r_iload_n X dX3_covers_121 (i := 3) rfl rfl ?_
      refine r_iconst X dX3_covers_122 (v := nI 1) (by decide) ?_
      refine r_isub X dX3_covers_123 ?_
      refine r_callV X (ihC _ _ _ _ (by omega) (by with_reducible (repeat (first | assumption | refine DN_ms rfl ?_ | refine DN_nd ?_ | refine DN_kv ?_ | refine DN_bs ?_ | refine DN_cs ?_ | refine DN_bg ?_)); done)) mw_X3_covers kc3 mi_X3_covers (hw.2 _ _ (by first | decide | (simp [cnt] <;> omega))) ev3 ml_X3_135 rfl rfl (Nat.le_of_ble_eq_true rfl) (by first | decide | (simp only [rmv]; omega)) (by first | decide | (simp only [rmv]; omega)) (by first | decide | (simp only [rmv]; omega)) (by first | decide | (simp only [rmv]; omega)) dX3_covers_124 (ko0 ?_)
      refine r_vret X dX3_covers_127 (by first | decide | (simp only [rmv]; omega)) (by first | decide | (simp only [rmv]; omega)) ?_
      first | with_reducible rfl | (simp [kv, hM, h1]; done) | contradiction | with_reducible assumption
    · exact absurd h1 (by omega)
  | succ n ih =>
    intro k M1 hk hM hN1
    have hD1 := hN1.1
    refine r_iload X dX3_covers_51 rfl ?_
    refine r_aload_n X dX3_covers_53 (i := 0) rfl rfl ?_
    refine r_get X kc3 (j := 3) (hw.2 _ _ (by first | decide | (simp [cnt] <;> omega))) ev3 (by decide) rfl fl_X3_86 dX3_covers_54 ?_
    refine r_icmpr_ge X dX3_covers_57 (tgt := 109) (by decide) (by with_reducible rfl) (hN1.2.2.1) (by omega) (by omega) (fun h1 => ?_) (fun h1 => ?_)
    · exact absurd h1 (by omega)
    · refine r_aload_n X dX3_covers_60 (i := 0) rfl rfl ?_
      refine r_iload_n X dX3_covers_61 (i := 1) rfl rfl ?_
      refine r_iload X dX3_covers_62 rfl ?_
      refine r_callV X (c_X3_fits hnt hw (by first | with_reducible assumption | with_reducible rfl | omega | (with_reducible (repeat (first | assumption | refine DM_t ?_ | refine DM_ms rfl ?_ | refine DM_gr ?_ | refine DM_nd ?_ | refine DM_tk ?_ | refine DM_pt ?_ | refine DM_bg ?_ | refine DM_cs ?_ | refine DM_kv ?_ | refine DM_bs ?_ | refine DM_co ?_ | refine DM_pu ?_)); done)) (by first | with_reducible assumption | with_reducible rfl | omega | (with_reducible (repeat (first | assumption | refine DM_t ?_ | refine DM_ms rfl ?_ | refine DM_gr ?_ | refine DM_nd ?_ | refine DM_tk ?_ | refine DM_pt ?_ | refine DM_bg ?_ | refine DM_cs ?_ | refine DM_kv ?_ | refine DM_bs ?_ | refine DM_co ?_ | refine DM_pu ?_)); done)) (by first | with_reducible assumption | with_reducible rfl | omega | (with_reducible (repeat (first | assumption | refine DM_t ?_ | refine DM_ms rfl ?_ | refine DM_gr ?_ | refine DM_nd ?_ | refine DM_tk ?_ | refine DM_pt ?_ | refine DM_bg ?_ | refine DM_cs ?_ | refine DM_kv ?_ | refine DM_bs ?_ | refine DM_co ?_ | refine DM_pu ?_)); done)) (by first | with_reducible assumption | with_reducible rfl | omega | (with_reducible (repeat (first | assumption | refine DM_t ?_ | refine DM_ms rfl ?_ | refine DM_gr ?_ | refine DM_nd ?_ | refine DM_tk ?_ | refine DM_pt ?_ | refine DM_bg ?_ | refine DM_cs ?_ | refine DM_kv ?_ | refine DM_bs ?_ | refine DM_co ?_ | refine DM_pu ?_)); done)) (by first | with_reducible assumption | with_reducible rfl | omega | (with_reducible (repeat (first | assumption | refine DM_t ?_ | refine DM_ms rfl ?_ | refine DM_gr ?_ | refine DM_nd ?_ | refine DM_tk ?_ | refine DM_pt ?_ | refine DM_bg ?_ | refine DM_cs ?_ | refine DM_kv ?_ | refine DM_bs ?_ | refine DM_co ?_ | refine DM_pu ?_)); done))) mw_X3_fits kc3 mi_X3_fits (hw.2 _ _ (by first | decide | (simp [cnt] <;> omega))) ev3 ml_X3_117 rfl rfl (Nat.le_of_ble_eq_true rfl) (by first | decide | (simp only [rmv]; omega)) (by first | decide | (simp only [rmv]; omega)) (by first | decide | (simp only [rmv]; omega)) (by first | decide | (simp only [rmv]; omega)) dX3_covers_64 (ko1 ?_)
      first | with_reducible refine r_ifb_ne X dX3_covers_67 (tgt := 73) (by decide) (fun h2 => ?_) (fun h2 => ?_) | refine r_if_ne X dX3_covers_67 (tgt := 73) (by decide) (fun h2 => ?_) (fun h2 => ?_)
      · refine r_aload_n X dX3_covers_73 (i := 0) rfl rfl ?_
        refine r_get X kc3 (j := 25) (hw.2 _ _ (by first | decide | (simp [cnt] <;> omega))) ev3 (by decide) rfl fl_X3_69 dX3_covers_74 ?_
        refine r_iload_n X dX3_covers_77 (i := 1) rfl rfl ?_
        refine r_iload X dX3_covers_78 rfl ?_
        refine r_iast X (hw.2 _ _ (by first | decide | (simp [cnt] <;> omega))) (evA (by decide) (by decide)) (by first | with_reducible rfl | with_reducible assumption | (rw [pk_mul, nI_add])) (by first | with_reducible assumption | (simp [alen] <;> omega)) (by decide) rfl dX3_covers_80 (esA (by decide) (by decide)) ?_
        refine r_aload_n X dX3_covers_81 (i := 0) rfl rfl ?_
        refine r_iload X dX3_covers_82 rfl ?_
        refine r_callV X (c_X3_isAllowed hnt hw (by first | with_reducible assumption | with_reducible rfl | omega | (with_reducible (repeat (first | assumption | refine DM_t ?_ | refine DM_ms rfl ?_ | refine DM_gr ?_ | refine DM_nd ?_ | refine DM_tk ?_ | refine DM_pt ?_ | refine DM_bg ?_ | refine DM_cs ?_ | refine DM_kv ?_ | refine DM_bs ?_ | refine DM_co ?_ | refine DM_pu ?_)); done)) (by first | with_reducible assumption | with_reducible rfl | omega | (with_reducible (repeat (first | assumption | refine DM_t ?_ | refine DM_ms rfl ?_ | refine DM_gr ?_ | refine DM_nd ?_ | refine DM_tk ?_ | refine DM_pt ?_ | refine DM_bg ?_ | refine DM_cs ?_ | refine DM_kv ?_ | refine DM_bs ?_ | refine DM_co ?_ | refine DM_pu ?_)); done)) (by first | with_reducible assumption | with_reducible rfl | omega | (with_reducible (repeat (first | assumption | refine DM_t ?_ | refine DM_ms rfl ?_ | refine DM_gr ?_ | refine DM_nd ?_ | refine DM_tk ?_ | refine DM_pt ?_ | refine DM_bg ?_ | refine DM_cs ?_ | refine DM_kv ?_ | refine DM_bs ?_ | refine DM_co ?_ | refine DM_pu ?_)); done))) mw_X3_isAllowed kc3 mi_X3_isAllowed (hw.2 _ _ (by first | decide | (simp [cnt] <;> omega))) ev3 ml_X3_139 rfl rfl (Nat.le_of_ble_eq_true rfl) (by first | decide | (simp only [rmv]; omega)) (by first | decide | (simp only [rmv]; omega)) (by first | decide | (simp only [rmv]; omega)) (by first | decide | (simp only [rmv]; omega)) dX3_covers_84 (ko1 ?_)
        first | with_reducible refine r_ifb_eq X dX3_covers_87 (tgt := 103) (by decide) (fun h3 => ?_) (fun h3 => ?_) | refine r_if_eq X dX3_covers_87 (tgt := 103) (by decide) (fun h3 => ?_) (fun h3 => ?_)
        · first | with_reducible refine r_iincn X dX3_covers_103 rfl (by decide) rfl ?_ | refine r_iinc1 X dX3_covers_103 rfl (by decide) rfl ?_
          refine r_goto X dX3_covers_106 (tgt := 51) (by decide) ?_
          refine r_lv (lv2 := [some (.ref (w.1 (3, 0))), some (.int (nI i)), some (.int many), some (.int left), some (.int (nI (k + 1)))]) (lvs_c (Or.inr rfl) (lvs_c (Or.inr rfl) (lvs_c (Or.inr rfl) (lvs_c (Or.inr rfl) (lvs_c (Or.inr rfl) lvs_n))))) ?_
          exact ih (k + 1) _ (by omega) (by rw [itn, ← hM]; simp [kvG, h1, h2, h3]) (by with_reducible (repeat (first | assumption | refine DN_ms rfl ?_ | refine DN_nd ?_ | refine DN_kv ?_ | refine DN_bs ?_ | refine DN_cs ?_ | refine DN_bg ?_)); done)
        · refine r_aload_n X dX3_covers_90 (i := 0) rfl rfl ?_
          refine r_iload_n X dX3_covers_91 (i := 1) rfl rfl ?_
          refine r_iconst X dX3_covers_92 (v := nI 1) (by decide) ?_
          refine r_iadd X dX3_covers_93 ?_
          rw [nI_add]
          refine r_iload_n X dX3_covers_94 (i := 2) rfl rfl ?_
          refine r_iconst X dX3_covers_95 (v := nI 1) (by decide) ?_
          refine r_iadd X dX3_covers_96 ?_
          refine r_iload_n X dX3_covers_97 (i := 3) rfl rfl ?_
          refine r_iconst X dX3_covers_98 (v := nI 1) (by decide) ?_
          refine r_isub X dX3_covers_99 ?_
          refine r_callV X (ihC _ _ _ _ (by omega) (by with_reducible (repeat (first | assumption | refine DN_ms rfl ?_ | refine DN_nd ?_ | refine DN_kv ?_ | refine DN_bs ?_ | refine DN_cs ?_ | refine DN_bg ?_)); done)) mw_X3_covers kc3 mi_X3_covers (hw.2 _ _ (by first | decide | (simp [cnt] <;> omega))) ev3 ml_X3_135 rfl rfl (Nat.le_of_ble_eq_true rfl) (by first | decide | (simp only [rmv]; omega)) (by first | decide | (simp only [rmv]; omega)) (by first | decide | (simp only [rmv]; omega)) (by first | decide | (simp only [rmv]; omega)) dX3_covers_100 (ko0 ?_)
          first | with_reducible refine r_iincn X dX3_covers_103 rfl (by decide) rfl ?_ | refine r_iinc1 X dX3_covers_103 rfl (by decide) rfl ?_
          refine r_goto X dX3_covers_106 (tgt := 51) (by decide) ?_
          refine r_lv (lv2 := [some (.ref (w.1 (3, 0))), some (.int (nI i)), some (.int many), some (.int left), some (.int (nI (k + 1)))]) (lvs_c (Or.inr rfl) (lvs_c (Or.inr rfl) (lvs_c (Or.inr rfl) (lvs_c (Or.inr rfl) (lvs_c (Or.inr rfl) lvs_n))))) ?_
          exact ih (k + 1) _ (by omega) (by rw [itn, ← hM]; simp [kvG, h1, h2, h3]) (by with_reducible (repeat (first | assumption | refine DN_ms rfl ?_ | refine DN_nd ?_ | refine DN_kv ?_ | refine DN_bs ?_ | refine DN_cs ?_ | refine DN_bg ?_)); done)
      · refine r_goto X dX3_covers_70 (tgt := 103) (by decide) ?_
        first | with_reducible refine r_iincn X dX3_covers_103 rfl (by decide) rfl ?_ | refine r_iinc1 X dX3_covers_103 rfl (by decide) rfl ?_
        refine r_goto X dX3_covers_106 (tgt := 51) (by decide) ?_
        refine r_lv (lv2 := [some (.ref (w.1 (3, 0))), some (.int (nI i)), some (.int many), some (.int left), some (.int (nI (k + 1)))]) (lvs_c (Or.inr rfl) (lvs_c (Or.inr rfl) (lvs_c (Or.inr rfl) (lvs_c (Or.inr rfl) (lvs_c (Or.inr rfl) lvs_n))))) ?_
        exact ih (k + 1) _ (by omega) (by rw [itn, ← hM]; simp [kvG, h1, h2]) (by with_reducible (repeat (first | assumption | refine DN_ms rfl ?_ | refine DN_nd ?_ | refine DN_kv ?_ | refine DN_bs ?_ | refine DN_cs ?_ | refine DN_bg ?_)); done)
set_option maxHeartbeats 4000000 in
set_option maxRecDepth 100000 in
theorem c_X3_covers {l : Launch} {w : Wo} {G : Lng} {mn en : Nat} (hnt : l.stackTraces = false) (hw : WK w) : ∀ (d : Nat) (i : Nat) (many left : Int32) (M : Mem), i + d = mn → DN mn en M → CT l yX3_covers [Cond.code yX3_covers cX3_covers 5 none] (10 + d) 0 0 w [.ref (w.1 (3, 0)), .int (nI i), .int many, .int left] M G (okO none (kv d i many left M) G) := by
  intro d
  induction d with
  | zero =>
    intro i many left M hi hN
    have hD := hN.1
    have hmn := hN.2.2.2.1
    have hen := hN.2.2.2.2
    obtain rfl : i = mn := by omega
    refine CT_of hnt hw.1 mw_X3_covers (by simp [Value.category]) (Nat.le_of_ble_eq_true rfl) (fun p e s m args below meth c X => ?_)
    refine r_iload_n X dX3_covers_0 (i := 2) rfl rfl ?_
    refine r_iload_n X dX3_covers_1 (i := 3) rfl rfl ?_
    refine r_iadd X dX3_covers_2 ?_
    refine r_aload_n X dX3_covers_3 (i := 0) rfl rfl ?_
    refine r_get X kc3 (j := 4) (hw.2 _ _ (by first | decide | (simp [cnt] <;> omega))) ev3 (by decide) rfl fl_X3_129 dX3_covers_4 ?_
    first | with_reducible refine r_icmpn_gt X dX3_covers_7 (tgt := 11) (by decide) (by omega) (by omega) (fun h1 => ?_) (fun h1 => ?_) | refine r_icmp_gt X dX3_covers_7 (tgt := 11) (by decide) (fun h1 => ?_) (fun h1 => ?_)
    · refine r_iload_n X dX3_covers_11 (i := 1) rfl rfl ?_
      refine r_aload_n X dX3_covers_12 (i := 0) rfl rfl ?_
      refine r_get X kc3 (j := 1) (hw.2 _ _ (by first | decide | (simp [cnt] <;> omega))) ev3 (by decide) rfl fl_X3_100 dX3_covers_13 ?_
      refine r_icmpr_ne X dX3_covers_16 (tgt := 29) (by decide) (by with_reducible rfl) (hN.2.1) (by omega) (by omega) (fun h2 => ?_) (fun h2 => ?_)
      · exact absurd h2 (by omega)
      · refine r_aload_n X dX3_covers_19 (i := 0) rfl rfl ?_
        refine r_iload_n X dX3_covers_20 (i := 2) rfl rfl ?_
        refine r_put X kc3 (j := 4) (hw.2 _ _ (by first | decide | (simp [cnt] <;> omega))) ev3 (by decide) (Nat.le_of_ble_eq_true rfl) fl_X3_129 rfl rfl rfl dX3_covers_21 es_3_4 ?_
        refine r_aload_n X dX3_covers_24 (i := 0) rfl rfl ?_
        refine r_callV X (c_X3_take hnt hw (by first | with_reducible assumption | with_reducible rfl | omega | (with_reducible (repeat (first | assumption | refine DM_t ?_ | refine DM_ms rfl ?_ | refine DM_gr ?_ | refine DM_nd ?_ | refine DM_tk ?_ | refine DM_pt ?_ | refine DM_bg ?_ | refine DM_cs ?_ | refine DM_kv ?_ | refine DM_bs ?_ | refine DM_co ?_ | refine DM_pu ?_)); done))) mw_X3_take kc3 mi_X3_take (hw.2 _ _ (by first | decide | (simp [cnt] <;> omega))) ev3 ml_X3_132 rfl rfl (Nat.le_of_ble_eq_true rfl) (by first | decide | (simp only [rmv]; omega)) (by first | decide | (simp only [rmv]; omega)) (by first | decide | (simp only [rmv]; omega)) (by first | decide | (simp only [rmv]; omega)) dX3_covers_25 (ko0 ?_)
        refine r_vret X dX3_covers_28 (by first | decide | (simp only [rmv]; omega)) (by first | decide | (simp only [rmv]; omega)) ?_
        first | with_reducible rfl | (simp [kv, h1, h2]; done) | contradiction | with_reducible assumption
    · refine r_vret X dX3_covers_10 (by first | decide | (simp only [rmv]; omega)) (by first | decide | (simp only [rmv]; omega)) ?_
      first | with_reducible rfl | (simp [kv, h1]; done) | contradiction | with_reducible assumption
  | succ d ihC =>
    intro i many left M hi hN
    have hD := hN.1
    have hmn := hN.2.2.2.1
    have hen := hN.2.2.2.2
    refine CT_of hnt hw.1 mw_X3_covers (by simp [Value.category]) (Nat.le_of_ble_eq_true rfl) (fun p e s m args below meth c X => ?_)
    refine r_iload_n X dX3_covers_0 (i := 2) rfl rfl ?_
    refine r_iload_n X dX3_covers_1 (i := 3) rfl rfl ?_
    refine r_iadd X dX3_covers_2 ?_
    refine r_aload_n X dX3_covers_3 (i := 0) rfl rfl ?_
    refine r_get X kc3 (j := 4) (hw.2 _ _ (by first | decide | (simp [cnt] <;> omega))) ev3 (by decide) rfl fl_X3_129 dX3_covers_4 ?_
    first | with_reducible refine r_icmpn_gt X dX3_covers_7 (tgt := 11) (by decide) (by omega) (by omega) (fun h1 => ?_) (fun h1 => ?_) | refine r_icmp_gt X dX3_covers_7 (tgt := 11) (by decide) (fun h1 => ?_) (fun h1 => ?_)
    · refine r_iload_n X dX3_covers_11 (i := 1) rfl rfl ?_
      refine r_aload_n X dX3_covers_12 (i := 0) rfl rfl ?_
      refine r_get X kc3 (j := 1) (hw.2 _ _ (by first | decide | (simp [cnt] <;> omega))) ev3 (by decide) rfl fl_X3_100 dX3_covers_13 ?_
      refine r_icmpr_ne X dX3_covers_16 (tgt := 29) (by decide) (by with_reducible rfl) (hN.2.1) (by omega) (by omega) (fun h2 => ?_) (fun h2 => ?_)
      · refine r_aload_n X dX3_covers_29 (i := 0) rfl rfl ?_
        refine r_get X kc3 (j := 13) (hw.2 _ _ (by first | decide | (simp [cnt] <;> omega))) ev3 (by decide) rfl fl_X3_31 dX3_covers_30 ?_
        refine r_iload_n X dX3_covers_33 (i := 1) rfl rfl ?_
        refine r_zald X (hw.2 _ _ (by first | decide | (simp [cnt] <;> omega))) (evA (by decide) (by decide)) (by first | with_reducible rfl | with_reducible assumption | (rw [pk_mul, nI_add])) (by first | with_reducible assumption | (simp [alen] <;> omega)) (by decide) dX3_covers_34 ?_
        first | with_reducible refine r_ifb_eq X dX3_covers_35 (tgt := 48) (by decide) (fun h3 => ?_) (fun h3 => ?_) | refine r_if_eq X dX3_covers_35 (tgt := 48) (by decide) (fun h3 => ?_) (fun h3 => ?_)
        · refine r_iconst X dX3_covers_48 (v := nI 0) (by decide) ?_
          refine r_istore X dX3_covers_49 (by decide) rfl ?_
          refine r_lv (lv2 := [some (.ref (w.1 (3, 0))), some (.int (nI i)), some (.int many), some (.int left), some (.int (nI 0))]) (lvs_c (Or.inr rfl) (lvs_c (Or.inr rfl) (lvs_c (Or.inr rfl) (lvs_c (Or.inr rfl) (lvs_c (Or.inr rfl) lvs_n))))) ?_
          have ho : kv (d + 1) i many left M = kv d (i + 1) many (left - nI 1) (ms (itn (kvG (kv d) i many left) en M) 29 0 i (-1)) := by simp [kv, hN.em, h1, h2, h3]
          rw [ho]
          exact lp_X3_covers hnt hw X ihC hi hmn hen en 0 _ (by omega) (itn0 _ _).symm (by with_reducible (repeat (first | assumption | refine DN_ms rfl ?_ | refine DN_nd ?_ | refine DN_kv ?_ | refine DN_bs ?_ | refine DN_cs ?_ | refine DN_bg ?_)); done)
        · refine r_aload_n X dX3_covers_38 (i := 0) rfl rfl ?_
          refine r_iload_n X dX3_covers_39 (i := 1) rfl rfl ?_
          refine r_iconst X dX3_covers_40 (v := nI 1) (by decide) ?_
          refine r_iadd X dX3_covers_41 ?_
          rw [nI_add]
          refine r_iload_n X dX3_covers_42 (i := 2) rfl rfl ?_
          refine r_iload_n X dX3_covers_43 (i := 3) rfl rfl ?_
          refine r_callV X (ihC _ _ _ _ (by omega) (by with_reducible (repeat (first | assumption | refine DN_ms rfl ?_ | refine DN_nd ?_ | refine DN_kv ?_ | refine DN_bs ?_ | refine DN_cs ?_ | refine DN_bg ?_)); done)) mw_X3_covers kc3 mi_X3_covers (hw.2 _ _ (by first | decide | (simp [cnt] <;> omega))) ev3 ml_X3_135 rfl rfl (Nat.le_of_ble_eq_true rfl) (by first | decide | (simp only [rmv]; omega)) (by first | decide | (simp only [rmv]; omega)) (by first | decide | (simp only [rmv]; omega)) (by first | decide | (simp only [rmv]; omega)) dX3_covers_44 (ko0 ?_)
          refine r_vret X dX3_covers_47 (by first | decide | (simp only [rmv]; omega)) (by first | decide | (simp only [rmv]; omega)) ?_
          first | with_reducible rfl | (simp [kv, h1, h2, h3]; done) | contradiction | with_reducible assumption
      · exact absurd h2 (by omega)
    · refine r_vret X dX3_covers_10 (by first | decide | (simp only [rmv]; omega)) (by first | decide | (simp only [rmv]; omega)) ?_
      first | with_reducible rfl | (simp [kv, h1]; done) | contradiction | with_reducible assumption

set_option maxHeartbeats 4000000 in
set_option maxRecDepth 100000 in
theorem lp_X3_buys {p : Program} {l : Launch} {e : Env} {s : State} {m : MethodId} {args : Array Value} {below : List Frame} {meth : Method} {c : Code} {w : Wo} {G : Lng} {d mn en : Nat} {i : Nat} {M : Mem} {sm : Int32} (hnt : l.stackTraces = false) (hw : WK w) (X : Cx p l (rmv (10 + (d + 1)) 0 0) s m args meth c cX3_buys 4 yX3_buys.cls none [] w) (ihC : ∀ (i : Nat) (M : Mem), i + d = mn → DN mn en M → CT l yX3_buys [Cond.code yX3_buys cX3_buys 4 none] (10 + d) 0 0 w [.ref (w.1 (3, 0)), .int (nI i)] M G (okO none (bs d i M) G)) (hi : i + (d + 1) = mn) (hmn : mn < 13) (hen : en < 6) : ∀ (n k : Nat) (M1 : Mem), k + n = en → M1 = itn (bsG (bs d) i) k (csM M) → DN mn en M1 → VE p l e (rmv (10 + (d + 1)) 0 0) s m args below meth c (0 + 0) (0 + 0) (QV w (okO none (ms (itn (bsG (bs d) i) en (csM M)) 29 0 i (-1)) G) below args s 0 0) 4 w 59 [some (.ref (w.1 (3, 0))), some (.int (nI i)), some (.int sm), some (.int (nI k))] [] (ev w M1 G) := by
  intro n
  induction n with
  | zero =>
    intro k M1 hk hM hN1
    have hD1 := hN1.1
    obtain rfl : k = en := by omega
    refine r_iload_n X dX3_buys_59 (i := 3) rfl rfl ?_
    refine r_aload_n X dX3_buys_60 (i := 0) rfl rfl ?_
    refine r_get X kc3 (j := 3) (hw.2 _ _ (by first | decide | (simp [cnt] <;> omega))) ev3 (by decide) rfl fl_X3_86 dX3_buys_61 ?_
    refine r_icmpr_ge X dX3_buys_64 (tgt := 99) (by decide) (by with_reducible rfl) (hN1.2.2.1) (by omega) (by omega) (fun h1 => ?_) (fun h1 => ?_)
    · refine r_aload_n X dX3_buys_99 (i := 0) rfl rfl ?_
      refine r_get X kc3 (j := 25) (hw.2 _ _ (by first | decide | (simp [cnt] <;> omega))) ev3 (by decide) rfl fl_X3_69 dX3_buys_100 ?_
      refine r_iload_n X dX3_buys_103 (i := 1) rfl rfl ?_
      refine r_iconst X dX3_buys_104 (v := -1) (by decide) ?_
      refine r_iast X (hw.2 _ _ (by first | decide | (simp [cnt] <;> omega))) (evA (by decide) (by decide)) (by first | with_reducible rfl | with_reducible assumption | (rw [pk_mul, nI_add])) (by first | with_reducible assumption | (simp [alen] <;> omega)) (by decide) rfl dX3_buys_105 (esA (by decide) (by decide)) ?_
      refine r_vret X dX3_buys_106 (by first | decide | (simp only [rmv]; omega)) (by first | decide | (simp only [rmv]; omega)) ?_
      first | with_reducible rfl | (simp [bs, hM, h1]; done) | contradiction | with_reducible assumption
    · exact absurd h1 (by omega)
  | succ n ih =>
    intro k M1 hk hM hN1
    have hD1 := hN1.1
    refine r_iload_n X dX3_buys_59 (i := 3) rfl rfl ?_
    refine r_aload_n X dX3_buys_60 (i := 0) rfl rfl ?_
    refine r_get X kc3 (j := 3) (hw.2 _ _ (by first | decide | (simp [cnt] <;> omega))) ev3 (by decide) rfl fl_X3_86 dX3_buys_61 ?_
    refine r_icmpr_ge X dX3_buys_64 (tgt := 99) (by decide) (by with_reducible rfl) (hN1.2.2.1) (by omega) (by omega) (fun h1 => ?_) (fun h1 => ?_)
    · exact absurd h1 (by omega)
    · refine r_aload_n X dX3_buys_67 (i := 0) rfl rfl ?_
      refine r_iload_n X dX3_buys_68 (i := 1) rfl rfl ?_
      refine r_iload_n X dX3_buys_69 (i := 3) rfl rfl ?_
      refine r_callV X (c_X3_fits hnt hw (by first | with_reducible assumption | with_reducible rfl | omega | (with_reducible (repeat (first | assumption | refine DM_t ?_ | refine DM_ms rfl ?_ | refine DM_gr ?_ | refine DM_nd ?_ | refine DM_tk ?_ | refine DM_pt ?_ | refine DM_bg ?_ | refine DM_cs ?_ | refine DM_kv ?_ | refine DM_bs ?_ | refine DM_co ?_ | refine DM_pu ?_)); done)) (by first | with_reducible assumption | with_reducible rfl | omega | (with_reducible (repeat (first | assumption | refine DM_t ?_ | refine DM_ms rfl ?_ | refine DM_gr ?_ | refine DM_nd ?_ | refine DM_tk ?_ | refine DM_pt ?_ | refine DM_bg ?_ | refine DM_cs ?_ | refine DM_kv ?_ | refine DM_bs ?_ | refine DM_co ?_ | refine DM_pu ?_)); done)) (by first | with_reducible assumption | with_reducible rfl | omega | (with_reducible (repeat (first | assumption | refine DM_t ?_ | refine DM_ms rfl ?_ | refine DM_gr ?_ | refine DM_nd ?_ | refine DM_tk ?_ | refine DM_pt ?_ | refine DM_bg ?_ | refine DM_cs ?_ | refine DM_kv ?_ | refine DM_bs ?_ | refine DM_co ?_ | refine DM_pu ?_)); done)) (by first | with_reducible assumption | with_reducible rfl | omega | (with_reducible (repeat (first | assumption | refine DM_t ?_ | refine DM_ms rfl ?_ | refine DM_gr ?_ | refine DM_nd ?_ | refine DM_tk ?_ | refine DM_pt ?_ | refine DM_bg ?_ | refine DM_cs ?_ | refine DM_kv ?_ | refine DM_bs ?_ | refine DM_co ?_ | refine DM_pu ?_)); done)) (by first | with_reducible assumption | with_reducible rfl | omega | (with_reducible (repeat (first | assumption | refine DM_t ?_ | refine DM_ms rfl ?_ | refine DM_gr ?_ | refine DM_nd ?_ | refine DM_tk ?_ | refine DM_pt ?_ | refine DM_bg ?_ | refine DM_cs ?_ | refine DM_kv ?_ | refine DM_bs ?_ | refine DM_co ?_ | refine DM_pu ?_)); done))) mw_X3_fits kc3 mi_X3_fits (hw.2 _ _ (by first | decide | (simp [cnt] <;> omega))) ev3 ml_X3_117 rfl rfl (Nat.le_of_ble_eq_true rfl) (by first | decide | (simp only [rmv]; omega)) (by first | decide | (simp only [rmv]; omega)) (by first | decide | (simp only [rmv]; omega)) (by first | decide | (simp only [rmv]; omega)) dX3_buys_70 (ko1 ?_)
      first | with_reducible refine r_ifb_ne X dX3_buys_73 (tgt := 79) (by decide) (fun h2 => ?_) (fun h2 => ?_) | refine r_if_ne X dX3_buys_73 (tgt := 79) (by decide) (fun h2 => ?_) (fun h2 => ?_)
      · refine r_aload_n X dX3_buys_79 (i := 0) rfl rfl ?_
        refine r_get X kc3 (j := 25) (hw.2 _ _ (by first | decide | (simp [cnt] <;> omega))) ev3 (by decide) rfl fl_X3_69 dX3_buys_80 ?_
        refine r_iload_n X dX3_buys_83 (i := 1) rfl rfl ?_
        refine r_iload_n X dX3_buys_84 (i := 3) rfl rfl ?_
        refine r_iast X (hw.2 _ _ (by first | decide | (simp [cnt] <;> omega))) (evA (by decide) (by decide)) (by first | with_reducible rfl | with_reducible assumption | (rw [pk_mul, nI_add])) (by first | with_reducible assumption | (simp [alen] <;> omega)) (by decide) rfl dX3_buys_85 (esA (by decide) (by decide)) ?_
        refine r_aload_n X dX3_buys_86 (i := 0) rfl rfl ?_
        refine r_iload_n X dX3_buys_87 (i := 1) rfl rfl ?_
        refine r_iconst X dX3_buys_88 (v := nI 1) (by decide) ?_
        refine r_iadd X dX3_buys_89 ?_
        rw [nI_add]
        refine r_callV X (ihC _ _ (by omega) (by with_reducible (repeat (first | assumption | refine DN_ms rfl ?_ | refine DN_nd ?_ | refine DN_kv ?_ | refine DN_bs ?_ | refine DN_cs ?_ | refine DN_bg ?_)); done)) mw_X3_buys kc3 mi_X3_buys (hw.2 _ _ (by first | decide | (simp [cnt] <;> omega))) ev3 ml_X3_161 rfl rfl (Nat.le_of_ble_eq_true rfl) (by first | decide | (simp only [rmv]; omega)) (by first | decide | (simp only [rmv]; omega)) (by first | decide | (simp only [rmv]; omega)) (by first | decide | (simp only [rmv]; omega)) dX3_buys_90 (ko0 ?_)
        first | with_reducible refine r_iincn X dX3_buys_93 rfl (by decide) rfl ?_ | refine r_iinc1 X dX3_buys_93 rfl (by decide) rfl ?_
        refine r_goto X dX3_buys_96 (tgt := 59) (by decide) ?_
        refine r_lv (lv2 := [some (.ref (w.1 (3, 0))), some (.int (nI i)), some (.int sm), some (.int (nI (k + 1)))]) (lvs_c (Or.inr rfl) (lvs_c (Or.inr rfl) (lvs_c (Or.inr rfl) (lvs_c (Or.inr rfl) lvs_n)))) ?_
        exact ih (k + 1) _ (by omega) (by rw [itn, ← hM]; simp [bsG, h1, h2]) (by with_reducible (repeat (first | assumption | refine DN_ms rfl ?_ | refine DN_nd ?_ | refine DN_kv ?_ | refine DN_bs ?_ | refine DN_cs ?_ | refine DN_bg ?_)); done)
      · refine r_goto X dX3_buys_76 (tgt := 93) (by decide) ?_
        first | with_reducible refine r_iincn X dX3_buys_93 rfl (by decide) rfl ?_ | refine r_iinc1 X dX3_buys_93 rfl (by decide) rfl ?_
        refine r_goto X dX3_buys_96 (tgt := 59) (by decide) ?_
        refine r_lv (lv2 := [some (.ref (w.1 (3, 0))), some (.int (nI i)), some (.int sm), some (.int (nI (k + 1)))]) (lvs_c (Or.inr rfl) (lvs_c (Or.inr rfl) (lvs_c (Or.inr rfl) (lvs_c (Or.inr rfl) lvs_n)))) ?_
        exact ih (k + 1) _ (by omega) (by rw [itn, ← hM]; simp [bsG, h1, h2]) (by with_reducible (repeat (first | assumption | refine DN_ms rfl ?_ | refine DN_nd ?_ | refine DN_kv ?_ | refine DN_bs ?_ | refine DN_cs ?_ | refine DN_bg ?_)); done)
set_option maxHeartbeats 4000000 in
set_option maxRecDepth 100000 in
theorem c_X3_buys {l : Launch} {w : Wo} {G : Lng} {mn en : Nat} (hnt : l.stackTraces = false) (hw : WK w) : ∀ (d : Nat) (i : Nat) (M : Mem), i + d = mn → DN mn en M → CT l yX3_buys [Cond.code yX3_buys cX3_buys 4 none] (10 + d) 0 0 w [.ref (w.1 (3, 0)), .int (nI i)] M G (okO none (bs d i M) G) := by
  intro d
  induction d with
  | zero =>
    intro i M hi hN
    have hD := hN.1
    have hmn := hN.2.2.2.1
    have hen := hN.2.2.2.2
    obtain rfl : i = mn := by omega
    refine CT_of hnt hw.1 mw_X3_buys (by simp [Value.category]) (Nat.le_of_ble_eq_true rfl) (fun p e s m args below meth c X => ?_)
    refine r_aload_n X dX3_buys_0 (i := 0) rfl rfl ?_
    refine r_callV X (c_X3_costs hnt hw (by first | with_reducible assumption | with_reducible rfl | omega | (with_reducible (repeat (first | assumption | refine DM_t ?_ | refine DM_ms rfl ?_ | refine DM_gr ?_ | refine DM_nd ?_ | refine DM_tk ?_ | refine DM_pt ?_ | refine DM_bg ?_ | refine DM_cs ?_ | refine DM_kv ?_ | refine DM_bs ?_ | refine DM_co ?_ | refine DM_pu ?_)); done))) mw_X3_costs kc3 mi_X3_costs (hw.2 _ _ (by first | decide | (simp [cnt] <;> omega))) ev3 ml_X3_158 rfl rfl (Nat.le_of_ble_eq_true rfl) (by first | decide | (simp only [rmv]; omega)) (by first | decide | (simp only [rmv]; omega)) (by first | decide | (simp only [rmv]; omega)) (by first | decide | (simp only [rmv]; omega)) dX3_buys_1 (ko1 ?_)
    refine r_istore_n X dX3_buys_4 (i := 2) rfl (by decide) rfl ?_
    refine r_aload_n X dX3_buys_5 (i := 0) rfl rfl ?_
    refine r_get X kc3 (j := 4) (hw.2 _ _ (by first | decide | (simp [cnt] <;> omega))) ev3 (by decide) rfl fl_X3_129 dX3_buys_6 ?_
    refine r_iconst X dX3_buys_9 (v := -1) (by decide) ?_
    first | with_reducible refine r_icmpn_eq X dX3_buys_10 (tgt := 22) (by decide) (by omega) (by omega) (fun h1 => ?_) (fun h1 => ?_) | refine r_icmp_eq X dX3_buys_10 (tgt := 22) (by decide) (fun h1 => ?_) (fun h1 => ?_)
    · refine r_iload_n X dX3_buys_22 (i := 1) rfl rfl ?_
      refine r_aload_n X dX3_buys_23 (i := 0) rfl rfl ?_
      refine r_get X kc3 (j := 1) (hw.2 _ _ (by first | decide | (simp [cnt] <;> omega))) ev3 (by decide) rfl fl_X3_100 dX3_buys_24 ?_
      refine r_icmpr_ne X dX3_buys_27 (tgt := 40) (by decide) (by with_reducible rfl) ((DN_cs hN).2.1) (by omega) (by omega) (fun h2 => ?_) (fun h2 => ?_)
      · exact absurd h2 (by omega)
      · refine r_aload_n X dX3_buys_30 (i := 0) rfl rfl ?_
        refine r_iload_n X dX3_buys_31 (i := 2) rfl rfl ?_
        refine r_put X kc3 (j := 4) (hw.2 _ _ (by first | decide | (simp [cnt] <;> omega))) ev3 (by decide) (Nat.le_of_ble_eq_true rfl) fl_X3_129 rfl rfl rfl dX3_buys_32 es_3_4 ?_
        refine r_aload_n X dX3_buys_35 (i := 0) rfl rfl ?_
        refine r_callV X (c_X3_take hnt hw (by first | with_reducible assumption | with_reducible rfl | omega | (with_reducible (repeat (first | assumption | refine DM_t ?_ | refine DM_ms rfl ?_ | refine DM_gr ?_ | refine DM_nd ?_ | refine DM_tk ?_ | refine DM_pt ?_ | refine DM_bg ?_ | refine DM_cs ?_ | refine DM_kv ?_ | refine DM_bs ?_ | refine DM_co ?_ | refine DM_pu ?_)); done))) mw_X3_take kc3 mi_X3_take (hw.2 _ _ (by first | decide | (simp [cnt] <;> omega))) ev3 ml_X3_132 rfl rfl (Nat.le_of_ble_eq_true rfl) (by first | decide | (simp only [rmv]; omega)) (by first | decide | (simp only [rmv]; omega)) (by first | decide | (simp only [rmv]; omega)) (by first | decide | (simp only [rmv]; omega)) dX3_buys_36 (ko0 ?_)
        refine r_vret X dX3_buys_39 (by first | decide | (simp only [rmv]; omega)) (by first | decide | (simp only [rmv]; omega)) ?_
        first | with_reducible rfl | (simp [bs, h1, h2]; done) | contradiction | with_reducible assumption
    · refine r_iload_n X dX3_buys_13 (i := 2) rfl rfl ?_
      refine r_aload_n X dX3_buys_14 (i := 0) rfl rfl ?_
      refine r_get X kc3 (j := 4) (hw.2 _ _ (by first | decide | (simp [cnt] <;> omega))) ev3 (by decide) rfl fl_X3_129 dX3_buys_15 ?_
      first | with_reducible refine r_icmpn_lt X dX3_buys_18 (tgt := 22) (by decide) (by omega) (by omega) (fun h3 => ?_) (fun h3 => ?_) | refine r_icmp_lt X dX3_buys_18 (tgt := 22) (by decide) (fun h3 => ?_) (fun h3 => ?_)
      · refine r_iload_n X dX3_buys_22 (i := 1) rfl rfl ?_
        refine r_aload_n X dX3_buys_23 (i := 0) rfl rfl ?_
        refine r_get X kc3 (j := 1) (hw.2 _ _ (by first | decide | (simp [cnt] <;> omega))) ev3 (by decide) rfl fl_X3_100 dX3_buys_24 ?_
        refine r_icmpr_ne X dX3_buys_27 (tgt := 40) (by decide) (by with_reducible rfl) ((DN_cs hN).2.1) (by omega) (by omega) (fun h4 => ?_) (fun h4 => ?_)
        · exact absurd h4 (by omega)
        · refine r_aload_n X dX3_buys_30 (i := 0) rfl rfl ?_
          refine r_iload_n X dX3_buys_31 (i := 2) rfl rfl ?_
          refine r_put X kc3 (j := 4) (hw.2 _ _ (by first | decide | (simp [cnt] <;> omega))) ev3 (by decide) (Nat.le_of_ble_eq_true rfl) fl_X3_129 rfl rfl rfl dX3_buys_32 es_3_4 ?_
          refine r_aload_n X dX3_buys_35 (i := 0) rfl rfl ?_
          refine r_callV X (c_X3_take hnt hw (by first | with_reducible assumption | with_reducible rfl | omega | (with_reducible (repeat (first | assumption | refine DM_t ?_ | refine DM_ms rfl ?_ | refine DM_gr ?_ | refine DM_nd ?_ | refine DM_tk ?_ | refine DM_pt ?_ | refine DM_bg ?_ | refine DM_cs ?_ | refine DM_kv ?_ | refine DM_bs ?_ | refine DM_co ?_ | refine DM_pu ?_)); done))) mw_X3_take kc3 mi_X3_take (hw.2 _ _ (by first | decide | (simp [cnt] <;> omega))) ev3 ml_X3_132 rfl rfl (Nat.le_of_ble_eq_true rfl) (by first | decide | (simp only [rmv]; omega)) (by first | decide | (simp only [rmv]; omega)) (by first | decide | (simp only [rmv]; omega)) (by first | decide | (simp only [rmv]; omega)) dX3_buys_36 (ko0 ?_)
          refine r_vret X dX3_buys_39 (by first | decide | (simp only [rmv]; omega)) (by first | decide | (simp only [rmv]; omega)) ?_
          first | with_reducible rfl | (simp [bs, h1, h3, h4]; done) | contradiction | with_reducible assumption
      · refine r_vret X dX3_buys_21 (by first | decide | (simp only [rmv]; omega)) (by first | decide | (simp only [rmv]; omega)) ?_
        first | with_reducible rfl | (simp [bs, h1, h3]; done) | contradiction | with_reducible assumption
  | succ d ihC =>
    intro i M hi hN
    have hD := hN.1
    have hmn := hN.2.2.2.1
    have hen := hN.2.2.2.2
    refine CT_of hnt hw.1 mw_X3_buys (by simp [Value.category]) (Nat.le_of_ble_eq_true rfl) (fun p e s m args below meth c X => ?_)
    refine r_aload_n X dX3_buys_0 (i := 0) rfl rfl ?_
    refine r_callV X (c_X3_costs hnt hw (by first | with_reducible assumption | with_reducible rfl | omega | (with_reducible (repeat (first | assumption | refine DM_t ?_ | refine DM_ms rfl ?_ | refine DM_gr ?_ | refine DM_nd ?_ | refine DM_tk ?_ | refine DM_pt ?_ | refine DM_bg ?_ | refine DM_cs ?_ | refine DM_kv ?_ | refine DM_bs ?_ | refine DM_co ?_ | refine DM_pu ?_)); done))) mw_X3_costs kc3 mi_X3_costs (hw.2 _ _ (by first | decide | (simp [cnt] <;> omega))) ev3 ml_X3_158 rfl rfl (Nat.le_of_ble_eq_true rfl) (by first | decide | (simp only [rmv]; omega)) (by first | decide | (simp only [rmv]; omega)) (by first | decide | (simp only [rmv]; omega)) (by first | decide | (simp only [rmv]; omega)) dX3_buys_1 (ko1 ?_)
    refine r_istore_n X dX3_buys_4 (i := 2) rfl (by decide) rfl ?_
    refine r_aload_n X dX3_buys_5 (i := 0) rfl rfl ?_
    refine r_get X kc3 (j := 4) (hw.2 _ _ (by first | decide | (simp [cnt] <;> omega))) ev3 (by decide) rfl fl_X3_129 dX3_buys_6 ?_
    refine r_iconst X dX3_buys_9 (v := -1) (by decide) ?_
    first | with_reducible refine r_icmpn_eq X dX3_buys_10 (tgt := 22) (by decide) (by omega) (by omega) (fun h1 => ?_) (fun h1 => ?_) | refine r_icmp_eq X dX3_buys_10 (tgt := 22) (by decide) (fun h1 => ?_) (fun h1 => ?_)
    · refine r_iload_n X dX3_buys_22 (i := 1) rfl rfl ?_
      refine r_aload_n X dX3_buys_23 (i := 0) rfl rfl ?_
      refine r_get X kc3 (j := 1) (hw.2 _ _ (by first | decide | (simp [cnt] <;> omega))) ev3 (by decide) rfl fl_X3_100 dX3_buys_24 ?_
      refine r_icmpr_ne X dX3_buys_27 (tgt := 40) (by decide) (by with_reducible rfl) ((DN_cs hN).2.1) (by omega) (by omega) (fun h2 => ?_) (fun h2 => ?_)
      · refine r_aload_n X dX3_buys_40 (i := 0) rfl rfl ?_
        refine r_get X kc3 (j := 13) (hw.2 _ _ (by first | decide | (simp [cnt] <;> omega))) ev3 (by decide) rfl fl_X3_31 dX3_buys_41 ?_
        refine r_iload_n X dX3_buys_44 (i := 1) rfl rfl ?_
        refine r_zald X (hw.2 _ _ (by first | decide | (simp [cnt] <;> omega))) (evA (by decide) (by decide)) (by first | with_reducible rfl | with_reducible assumption | (rw [pk_mul, nI_add])) (by first | with_reducible assumption | (simp [alen] <;> omega)) (by decide) dX3_buys_45 ?_
        first | with_reducible refine r_ifb_eq X dX3_buys_46 (tgt := 57) (by decide) (fun h3 => ?_) (fun h3 => ?_) | refine r_if_eq X dX3_buys_46 (tgt := 57) (by decide) (fun h3 => ?_) (fun h3 => ?_)
        · refine r_iconst X dX3_buys_57 (v := nI 0) (by decide) ?_
          refine r_istore_n X dX3_buys_58 (i := 3) rfl (by decide) rfl ?_
          refine r_lv (lv2 := [some (.ref (w.1 (3, 0))), some (.int (nI i)), some (.int (csV M (ix (M 3 0 3)))), some (.int (nI 0))]) (lvs_c (Or.inr rfl) (lvs_c (Or.inr rfl) (lvs_c (Or.inr rfl) (lvs_c (Or.inr rfl) lvs_n)))) ?_
          have ho : bs (d + 1) i M = ms (itn (bsG (bs d) i) en (csM M)) 29 0 i (-1) := by
            simp only [bs]
            rw [if_pos (by simp [h1, h2, h3]), if_pos (by simp [h1, h2, h3]), hN.em]
          rw [ho]
          exact lp_X3_buys hnt hw X ihC hi hmn hen en 0 _ (by omega) (itn0 _ _).symm (by with_reducible (repeat (first | assumption | refine DN_ms rfl ?_ | refine DN_nd ?_ | refine DN_kv ?_ | refine DN_bs ?_ | refine DN_cs ?_ | refine DN_bg ?_)); done)
        · refine r_aload_n X dX3_buys_49 (i := 0) rfl rfl ?_
          refine r_iload_n X dX3_buys_50 (i := 1) rfl rfl ?_
          refine r_iconst X dX3_buys_51 (v := nI 1) (by decide) ?_
          refine r_iadd X dX3_buys_52 ?_
          rw [nI_add]
          refine r_callV X (ihC _ _ (by omega) (by with_reducible (repeat (first | assumption | refine DN_ms rfl ?_ | refine DN_nd ?_ | refine DN_kv ?_ | refine DN_bs ?_ | refine DN_cs ?_ | refine DN_bg ?_)); done)) mw_X3_buys kc3 mi_X3_buys (hw.2 _ _ (by first | decide | (simp [cnt] <;> omega))) ev3 ml_X3_161 rfl rfl (Nat.le_of_ble_eq_true rfl) (by first | decide | (simp only [rmv]; omega)) (by first | decide | (simp only [rmv]; omega)) (by first | decide | (simp only [rmv]; omega)) (by first | decide | (simp only [rmv]; omega)) dX3_buys_53 (ko0 ?_)
          refine r_vret X dX3_buys_56 (by first | decide | (simp only [rmv]; omega)) (by first | decide | (simp only [rmv]; omega)) ?_
          first | with_reducible rfl | (simp [bs, h1, h2, h3]; done) | contradiction | with_reducible assumption
      · exact absurd h2 (by omega)
    · refine r_iload_n X dX3_buys_13 (i := 2) rfl rfl ?_
      refine r_aload_n X dX3_buys_14 (i := 0) rfl rfl ?_
      refine r_get X kc3 (j := 4) (hw.2 _ _ (by first | decide | (simp [cnt] <;> omega))) ev3 (by decide) rfl fl_X3_129 dX3_buys_15 ?_
      first | with_reducible refine r_icmpn_lt X dX3_buys_18 (tgt := 22) (by decide) (by omega) (by omega) (fun h4 => ?_) (fun h4 => ?_) | refine r_icmp_lt X dX3_buys_18 (tgt := 22) (by decide) (fun h4 => ?_) (fun h4 => ?_)
      · refine r_iload_n X dX3_buys_22 (i := 1) rfl rfl ?_
        refine r_aload_n X dX3_buys_23 (i := 0) rfl rfl ?_
        refine r_get X kc3 (j := 1) (hw.2 _ _ (by first | decide | (simp [cnt] <;> omega))) ev3 (by decide) rfl fl_X3_100 dX3_buys_24 ?_
        refine r_icmpr_ne X dX3_buys_27 (tgt := 40) (by decide) (by with_reducible rfl) ((DN_cs hN).2.1) (by omega) (by omega) (fun h5 => ?_) (fun h5 => ?_)
        · refine r_aload_n X dX3_buys_40 (i := 0) rfl rfl ?_
          refine r_get X kc3 (j := 13) (hw.2 _ _ (by first | decide | (simp [cnt] <;> omega))) ev3 (by decide) rfl fl_X3_31 dX3_buys_41 ?_
          refine r_iload_n X dX3_buys_44 (i := 1) rfl rfl ?_
          refine r_zald X (hw.2 _ _ (by first | decide | (simp [cnt] <;> omega))) (evA (by decide) (by decide)) (by first | with_reducible rfl | with_reducible assumption | (rw [pk_mul, nI_add])) (by first | with_reducible assumption | (simp [alen] <;> omega)) (by decide) dX3_buys_45 ?_
          first | with_reducible refine r_ifb_eq X dX3_buys_46 (tgt := 57) (by decide) (fun h6 => ?_) (fun h6 => ?_) | refine r_if_eq X dX3_buys_46 (tgt := 57) (by decide) (fun h6 => ?_) (fun h6 => ?_)
          · refine r_iconst X dX3_buys_57 (v := nI 0) (by decide) ?_
            refine r_istore_n X dX3_buys_58 (i := 3) rfl (by decide) rfl ?_
            refine r_lv (lv2 := [some (.ref (w.1 (3, 0))), some (.int (nI i)), some (.int (csV M (ix (M 3 0 3)))), some (.int (nI 0))]) (lvs_c (Or.inr rfl) (lvs_c (Or.inr rfl) (lvs_c (Or.inr rfl) (lvs_c (Or.inr rfl) lvs_n)))) ?_
            have ho : bs (d + 1) i M = ms (itn (bsG (bs d) i) en (csM M)) 29 0 i (-1) := by
              simp only [bs]
              rw [if_pos (by simp [h1, h4, h5, h6]), if_pos (by simp [h1, h4, h5, h6]), hN.em]
            rw [ho]
            exact lp_X3_buys hnt hw X ihC hi hmn hen en 0 _ (by omega) (itn0 _ _).symm (by with_reducible (repeat (first | assumption | refine DN_ms rfl ?_ | refine DN_nd ?_ | refine DN_kv ?_ | refine DN_bs ?_ | refine DN_cs ?_ | refine DN_bg ?_)); done)
          · refine r_aload_n X dX3_buys_49 (i := 0) rfl rfl ?_
            refine r_iload_n X dX3_buys_50 (i := 1) rfl rfl ?_
            refine r_iconst X dX3_buys_51 (v := nI 1) (by decide) ?_
            refine r_iadd X dX3_buys_52 ?_
            rw [nI_add]
            refine r_callV X (ihC _ _ (by omega) (by with_reducible (repeat (first | assumption | refine DN_ms rfl ?_ | refine DN_nd ?_ | refine DN_kv ?_ | refine DN_bs ?_ | refine DN_cs ?_ | refine DN_bg ?_)); done)) mw_X3_buys kc3 mi_X3_buys (hw.2 _ _ (by first | decide | (simp [cnt] <;> omega))) ev3 ml_X3_161 rfl rfl (Nat.le_of_ble_eq_true rfl) (by first | decide | (simp only [rmv]; omega)) (by first | decide | (simp only [rmv]; omega)) (by first | decide | (simp only [rmv]; omega)) (by first | decide | (simp only [rmv]; omega)) dX3_buys_53 (ko0 ?_)
            refine r_vret X dX3_buys_56 (by first | decide | (simp only [rmv]; omega)) (by first | decide | (simp only [rmv]; omega)) ?_
            first | with_reducible rfl | (simp [bs, h1, h4, h5, h6]; done) | contradiction | with_reducible assumption
        · exact absurd h5 (by omega)
      · refine r_vret X dX3_buys_21 (by first | decide | (simp only [rmv]; omega)) (by first | decide | (simp only [rmv]; omega)) ?_
        first | with_reducible rfl | (simp [bs, h1, h4]; done) | contradiction | with_reducible assumption

set_option maxHeartbeats 4000000 in
set_option maxRecDepth 100000 in
theorem c_X3_cover {l : Launch} {w : Wo} {M : Mem} {G : Lng}  (hnt : l.stackTraces = false) (hw : WK w) (hD : DM M) : CT l yX3_cover [Cond.code yX3_cover cX3_cover 1 none] 24 0 0 w [.ref (w.1 (3, 0))] M G (okO none (coM M) G) := by
  refine CT_of hnt hw.1 mw_X3_cover (by simp [Value.category]) (Nat.le_of_ble_eq_true rfl) (fun p e s m args below meth c X => ?_)
  have h6 := hD.1.2
  refine r_aload_n X dX3_cover_0 (i := 0) rfl rfl ?_
  refine r_callV X (c_X3_begin hnt hw (by first | with_reducible assumption | with_reducible rfl | omega | (with_reducible (repeat (first | assumption | refine DM_t ?_ | refine DM_ms rfl ?_ | refine DM_gr ?_ | refine DM_nd ?_ | refine DM_tk ?_ | refine DM_pt ?_ | refine DM_bg ?_ | refine DM_cs ?_ | refine DM_kv ?_ | refine DM_bs ?_ | refine DM_co ?_ | refine DM_pu ?_)); done))) mw_X3_begin kc3 mi_X3_begin (hw.2 _ _ (by first | decide | (simp [cnt] <;> omega))) ev3 ml_X3_142 rfl rfl (Nat.le_of_ble_eq_true rfl) (by first | decide | (simp only [rmv]; omega)) (by first | decide | (simp only [rmv]; omega)) (by first | decide | (simp only [rmv]; omega)) (by first | decide | (simp only [rmv]; omega)) dX3_cover_1 (ko0 ?_)
  refine r_aload_n X dX3_cover_4 (i := 0) rfl rfl ?_
  refine r_iconst X dX3_cover_5 (v := nI 0) (by decide) ?_
  refine r_iconst X dX3_cover_6 (v := nI 0) (by decide) ?_
  refine r_aload_n X dX3_cover_7 (i := 0) rfl rfl ?_
  refine r_get X kc3 (j := 2) (hw.2 _ _ (by first | decide | (simp [cnt] <;> omega))) ev3 (by decide) rfl fl_X3_97 dX3_cover_8 ?_
  refine r_callV X (c_X3_covers hnt hw (ix (M 3 0 1)) 0 _ _ _ (by omega) (DN_bg (DN.of hD))) mw_X3_covers kc3 mi_X3_covers (hw.2 _ _ (by first | decide | (simp [cnt] <;> omega))) ev3 ml_X3_135 rfl rfl (Nat.le_of_ble_eq_true rfl) (by first | decide | (simp only [rmv]; omega)) (by first | decide | (simp only [rmv]; omega)) (by first | decide | (simp only [rmv]; omega)) (by first | decide | (simp only [rmv]; omega)) dX3_cover_11 (ko0 ?_)
  refine r_aload_n X dX3_cover_14 (i := 0) rfl rfl ?_
  refine r_callV X (c_X3_put hnt hw (by first | with_reducible assumption | with_reducible rfl | omega | (with_reducible (repeat (first | assumption | refine DM_t ?_ | refine DM_ms rfl ?_ | refine DM_gr ?_ | refine DM_nd ?_ | refine DM_tk ?_ | refine DM_pt ?_ | refine DM_bg ?_ | refine DM_cs ?_ | refine DM_kv ?_ | refine DM_bs ?_ | refine DM_co ?_ | refine DM_pu ?_)); done))) mw_X3_put kc3 mi_X3_put (hw.2 _ _ (by first | decide | (simp [cnt] <;> omega))) ev3 ml_X3_145 rfl rfl (Nat.le_of_ble_eq_true rfl) (by first | decide | (simp only [rmv]; omega)) (by first | decide | (simp only [rmv]; omega)) (by first | decide | (simp only [rmv]; omega)) (by first | decide | (simp only [rmv]; omega)) dX3_cover_15 (ko0 ?_)
  refine r_vret X dX3_cover_18 (by first | decide | (simp only [rmv]; omega)) (by first | decide | (simp only [rmv]; omega)) ?_
  first | with_reducible rfl | (rfl; done) | contradiction | with_reducible assumption

theorem Mm_tf {M M1 : Mem} (h : Mm M M1) : Mm M (tM M1 false) := Mm_t h
def nCovered (M : Mem) (G : Lng) : Oc := okO (some (.int (coM M 3 0 4))) (coM M) G
def nCT (M : Mem) (G : Lng) : Oc := if M 3 0 2 ≤ nI 4 then nCovered (ms M 3 0 0 (nI 0)) G else er M G 1
def nFitting (M : Mem) (G : Lng) (x : Int32) : Oc := if nti M x = true then okO (some (.int (nI 0))) (tM M true) G else okO (some (.int (cfm (tM M false) (ix x) (ix (tM M false 3 0 3))))) (tM M false) G
def nfF (M : Mem) (G : Lng) (i : Nat) : Nat → Nat → Oc
  | 0, _ => okO (some (.int (nI 0))) (ms M 3 0 0 (nI 2)) G
  | n + 1, e => if fim M e i = true then okO (some (.int (nI e))) M G else nfF M G i n (e + 1)
def nFirst (M : Mem) (G : Lng) (x : Int32) : Oc := if nti M x = true then okO (some (.int (nI 0))) (tM M true) G else nfF (tM M false) G (ix x) (ix (tM M false 3 0 3)) 0
def nEOf (M : Mem) (G : Lng) (x : Int32) : Oc := if nti M x = true then okO (some (.int (nI 0))) (tM M true) G else if coM (tM M false) 29 0 (ix x) = -1 then okO (some (.int (nI 0))) (ms (coM (tM M false)) 3 0 0 (nI 2)) G else okO (some (.int (coM (tM M false) 29 0 (ix x)))) (coM (tM M false)) G
def nReason (M : Mem) (G : Lng) (x : Int32) : Oc := if nti M x = true then okO (some (.int (nI 99))) (tM M true) G else if coM (tM M false) 29 0 (ix x) = -1 then (if cfm (coM (tM M false)) (ix x) (ix (coM (tM M false) 3 0 3)) = 0 then okO (some (.int (nI 110))) (coM (tM M false)) G else okO (some (.int (nI 117))) (coM (tM M false)) G) else okO (some (.int (nI 99))) (coM (tM M false)) G
def nUsed (M : Mem) (G : Lng) (x : Int32) : Oc := if nte M x = true then okO (some (.int (nI 0))) (tM M true) G else okO (some (.int (ndV (coM (tM M false)) (ix x)))) (ndM (coM (tM M false)) (ix x)) G
def nSpare (M : Mem) (G : Lng) (x : Int32) : Oc := if nte M x = true then okO (some (.int (nI 0))) (tM M true) G else okO (some (.int (coM (tM M false) 24 0 (ix x) - ndV (coM (tM M false)) (ix x)))) (ndM (coM (tM M false)) (ix x)) G
def nPurchase (M : Mem) (G : Lng) : Oc := if npA M = true then okO (some (.int (puM M 3 0 4))) (puM M) G else okO (some (.int (nI 0))) (ms M 3 0 0 (nI 1)) G
def nPT (M : Mem) (G : Lng) : Oc := if M 3 0 2 ≤ nI 4 then (if npA M = true then okO (some (.int (puM M 3 0 4))) (puM M) G else okO (some (.int (nI 0))) (ms M 3 0 0 (nI 2)) G) else er M G 1
def nToBuy (M : Mem) (G : Lng) (x : Int32) : Oc := if nte M x = true then okO (some (.int (nI 0))) (tM M true) G else if npA (tM M false) = true then okO (some (.int (byV (puM (tM M false)) (ix x)))) (ndM (puM (tM M false)) (ix x)) G else okO (some (.int (nI 0))) (ms (tM M false) 3 0 0 (nI 2)) G
def uhN (M : Mem) (e : Nat) : Mem := itn (ufH e) (ix (M 3 0 1)) M
def nUFA (M : Mem) (G : Lng) (x : Int32) : Oc := if nte M x = true then okO (some (.int (nI 0))) (tM M true) G else okO (some (.int (ndV (uhN (tM M false) (ix x)) (ix x)))) (ndM (uhN (tM M false) (ix x)) (ix x)) G
def tuH (e : Nat) (A : Mem) : Mem := ms (ndM A e) 24 0 e (A 24 0 e + byV A e)
def tuN (M : Mem) : Mem := itn tuH (ix (M 3 0 3)) (puM M)
def nTrueUp (M : Mem) (G : Lng) : Oc := if npA M = true then okO (some (.int (tuN M 3 0 4))) (tuN M) (gs G (3, 0) (G (3, 0) + (tuN M 3 0 4).toInt64)) else okO (some (.int (nI 0))) (ms M 3 0 0 (nI 1)) G
set_option maxHeartbeats 4000000 in
set_option maxRecDepth 100000 in
theorem c_X3_covered {l : Launch} {w : Wo} {M : Mem} {G : Lng}  (hnt : l.stackTraces = false) (hw : WK w) (hD : DM M) : CT l yX3_covered [Cond.code yX3_covered cX3_covered 1 (some .int)] 25 0 0 w [.ref (w.1 (3, 0))] M G (nCovered M G) := by
  refine CT_of hnt hw.1 mw_X3_covered (by simp [Value.category]) (Nat.le_of_ble_eq_true rfl) (fun p e s m args below meth c X => ?_)
  refine r_aload_n X dX3_covered_0 (i := 0) rfl rfl ?_
  refine r_callV X (c_X3_cover hnt hw (by first | with_reducible assumption | with_reducible rfl | omega | (with_reducible (repeat (first | assumption | refine DM_t ?_ | refine DM_ms rfl ?_ | refine DM_gr ?_ | refine DM_nd ?_ | refine DM_tk ?_ | refine DM_pt ?_ | refine DM_bg ?_ | refine DM_cs ?_ | refine DM_kv ?_ | refine DM_bs ?_ | refine DM_co ?_ | refine DM_pu ?_)); done))) mw_X3_cover kc3 mi_X3_cover (hw.2 _ _ (by first | decide | (simp [cnt] <;> omega))) ev3 ml_X3_148 rfl rfl (Nat.le_of_ble_eq_true rfl) (by first | decide | (simp only [rmv]; omega)) (by first | decide | (simp only [rmv]; omega)) (by first | decide | (simp only [rmv]; omega)) (by first | decide | (simp only [rmv]; omega)) dX3_covered_1 (ko0 ?_)
  refine r_aload_n X dX3_covered_4 (i := 0) rfl rfl ?_
  refine r_get X kc3 (j := 4) (hw.2 _ _ (by first | decide | (simp [cnt] <;> omega))) ev3 (by decide) rfl fl_X3_129 dX3_covered_5 ?_
  refine r_iret X dX3_covered_8 (by first | decide | (simp only [rmv]; omega)) (by first | decide | (simp only [rmv]; omega)) ?_
  first | with_reducible rfl | (simp [nCovered]; done) | contradiction | with_reducible assumption

set_option maxHeartbeats 4000000 in
set_option maxRecDepth 100000 in
theorem c_X3_coveredByTrying {l : Launch} {w : Wo} {M : Mem} {G : Lng}  (hnt : l.stackTraces = false) (hw : WK w) (hD : DM M) : CT l yX3_coveredByTrying [Cond.code yX3_coveredByTrying cX3_coveredByTrying 1 (some .int)] 26 0 0 w [.ref (w.1 (3, 0))] M G (nCT M G) := by
  refine CT_of hnt hw.1 mw_X3_coveredByTrying (by simp [Value.category]) (Nat.le_of_ble_eq_true rfl) (fun p e s m args below meth c X => ?_)
  refine r_aload_n X dX3_coveredByTrying_0 (i := 0) rfl rfl ?_
  refine r_get X kc3 (j := 2) (hw.2 _ _ (by first | decide | (simp [cnt] <;> omega))) ev3 (by decide) rfl fl_X3_97 dX3_coveredByTrying_1 ?_
  refine r_iconst X dX3_coveredByTrying_4 (v := nI 4) (by decide) ?_
  first | with_reducible refine r_icmpn_le X dX3_coveredByTrying_5 (tgt := 14) (by decide) (by omega) (by omega) (fun h1 => ?_) (fun h1 => ?_) | refine r_icmp_le X dX3_coveredByTrying_5 (tgt := 14) (by decide) (fun h1 => ?_) (fun h1 => ?_)
  · refine r_aload_n X dX3_coveredByTrying_14 (i := 0) rfl rfl ?_
    refine r_iconst X dX3_coveredByTrying_15 (v := nI 0) (by decide) ?_
    refine r_put X kc3 (j := 0) (hw.2 _ _ (by first | decide | (simp [cnt] <;> omega))) ev3 (by decide) (Nat.le_of_ble_eq_true rfl) fl_X3_78 rfl rfl rfl dX3_coveredByTrying_16 es_3_0 ?_
    refine r_aload_n X dX3_coveredByTrying_19 (i := 0) rfl rfl ?_
    refine r_callV X (c_X3_covered hnt hw (by first | with_reducible assumption | with_reducible rfl | omega | (with_reducible (repeat (first | assumption | refine DM_t ?_ | refine DM_ms rfl ?_ | refine DM_gr ?_ | refine DM_nd ?_ | refine DM_tk ?_ | refine DM_pt ?_ | refine DM_bg ?_ | refine DM_cs ?_ | refine DM_kv ?_ | refine DM_bs ?_ | refine DM_co ?_ | refine DM_pu ?_)); done))) mw_X3_covered kc3 mi_X3_covered (hw.2 _ _ (by first | decide | (simp [cnt] <;> omega))) ev3 ml_X3_151 rfl rfl (Nat.le_of_ble_eq_true rfl) (by first | decide | (simp only [rmv]; omega)) (by first | decide | (simp only [rmv]; omega)) (by first | decide | (simp only [rmv]; omega)) (by first | decide | (simp only [rmv]; omega)) dX3_coveredByTrying_20 (ko1 ?_)
    refine r_iret X dX3_coveredByTrying_23 (by first | decide | (simp only [rmv]; omega)) (by first | decide | (simp only [rmv]; omega)) ?_
    first | with_reducible rfl | (simp [nCT, nCovered, er, h1]; done) | contradiction | with_reducible assumption
  · refine r_aload_n X dX3_coveredByTrying_8 (i := 0) rfl rfl ?_
    refine r_iconst X dX3_coveredByTrying_9 (v := nI 1) (by decide) ?_
    refine r_callV X (c_X3_fail hnt hw ) mw_X3_fail kc3 mi_X3_fail (hw.2 _ _ (by first | decide | (simp [cnt] <;> omega))) ev3 ml_X3_93 rfl rfl (Nat.le_of_ble_eq_true rfl) (by first | decide | (simp only [rmv]; omega)) (by first | decide | (simp only [rmv]; omega)) (by first | decide | (simp only [rmv]; omega)) (by first | decide | (simp only [rmv]; omega)) dX3_coveredByTrying_10 (ko1 ?_)
    refine r_iret X dX3_coveredByTrying_13 (by first | decide | (simp only [rmv]; omega)) (by first | decide | (simp only [rmv]; omega)) ?_
    first | with_reducible rfl | (simp [nCT, nCovered, er, h1]; done) | contradiction | with_reducible assumption

set_option maxHeartbeats 4000000 in
set_option maxRecDepth 100000 in
theorem c_X3_fitting {l : Launch} {w : Wo} {M : Mem} {G : Lng} {x : Int32} (hnt : l.stackTraces = false) (hw : WK w) (hD : DM M) : CT l yX3_fitting [Cond.code yX3_fitting cX3_fitting 2 (some .int)] 7 0 0 w [.ref (w.1 (3, 0)), .int x] M G (nFitting M G x) := by
  refine CT_of hnt hw.1 mw_X3_fitting (by simp [Value.category]) (Nat.le_of_ble_eq_true rfl) (fun p e s m args below meth c X => ?_)
  refine r_aload_n X dX3_fitting_0 (i := 0) rfl rfl ?_
  refine r_iload_n X dX3_fitting_1 (i := 1) rfl rfl ?_
  refine r_callV X (c_X3_noInstall hnt hw (by first | with_reducible assumption | with_reducible rfl | omega | (with_reducible (repeat (first | assumption | refine DM_t ?_ | refine DM_ms rfl ?_ | refine DM_gr ?_ | refine DM_nd ?_ | refine DM_tk ?_ | refine DM_pt ?_ | refine DM_bg ?_ | refine DM_cs ?_ | refine DM_kv ?_ | refine DM_bs ?_ | refine DM_co ?_ | refine DM_pu ?_)); done))) mw_X3_noInstall kc3 mi_X3_noInstall (hw.2 _ _ (by first | decide | (simp [cnt] <;> omega))) ev3 ml_X3_103 rfl rfl (Nat.le_of_ble_eq_true rfl) (by first | decide | (simp only [rmv]; omega)) (by first | decide | (simp only [rmv]; omega)) (by first | decide | (simp only [rmv]; omega)) (by first | decide | (simp only [rmv]; omega)) dX3_fitting_2 (ko1 ?_)
  first | with_reducible refine r_ifb_eq X dX3_fitting_5 (tgt := 12) (by decide) (fun h1 => ?_) (fun h1 => ?_) | refine r_if_eq X dX3_fitting_5 (tgt := 12) (by decide) (fun h1 => ?_) (fun h1 => ?_)
  · rw [h1]
    have hx1 := (nti_Rg hD h1).1
    have hx2 := (nti_Rg hD h1).2
    refine r_aload_n X dX3_fitting_12 (i := 0) rfl rfl ?_
    refine r_iload_n X dX3_fitting_13 (i := 1) rfl rfl ?_
    refine r_callV X (c_X3_fits_ hnt hw (by first | with_reducible assumption | with_reducible rfl | omega | (with_reducible (repeat (first | assumption | refine DM_t ?_ | refine DM_ms rfl ?_ | refine DM_gr ?_ | refine DM_nd ?_ | refine DM_tk ?_ | refine DM_pt ?_ | refine DM_bg ?_ | refine DM_cs ?_ | refine DM_kv ?_ | refine DM_bs ?_ | refine DM_co ?_ | refine DM_pu ?_)); done)) (by first | with_reducible assumption | with_reducible rfl | omega | (with_reducible (repeat (first | assumption | refine DM_t ?_ | refine DM_ms rfl ?_ | refine DM_gr ?_ | refine DM_nd ?_ | refine DM_tk ?_ | refine DM_pt ?_ | refine DM_bg ?_ | refine DM_cs ?_ | refine DM_kv ?_ | refine DM_bs ?_ | refine DM_co ?_ | refine DM_pu ?_)); done)) (by first | with_reducible assumption | with_reducible rfl | omega | (with_reducible (repeat (first | assumption | refine DM_t ?_ | refine DM_ms rfl ?_ | refine DM_gr ?_ | refine DM_nd ?_ | refine DM_tk ?_ | refine DM_pt ?_ | refine DM_bg ?_ | refine DM_cs ?_ | refine DM_kv ?_ | refine DM_bs ?_ | refine DM_co ?_ | refine DM_pu ?_)); done))) mw_X3_fits_ kc3 mi_X3_fits_ (hw.2 _ _ (by first | decide | (simp [cnt] <;> omega))) ev3 ml_X3_120 rfl rfl (Nat.le_of_ble_eq_true rfl) (by first | decide | (simp only [rmv]; omega)) (by first | decide | (simp only [rmv]; omega)) (by first | decide | (simp only [rmv]; omega)) (by first | decide | (simp only [rmv]; omega)) dX3_fitting_14 (ko1 ?_)
    refine r_iret X dX3_fitting_17 (by first | decide | (simp only [rmv]; omega)) (by first | decide | (simp only [rmv]; omega)) ?_
    first | with_reducible rfl | (first | (simp [nFitting, er, h1]; done) | (simp [nFitting, er, tM, ms_o, ms_s, h1]; done) | (simp [nFitting, er, ms_s, h1]; done) | (simp [nFitting, er, ms_s, h1]; simp [tM, ms_o]; done); done) | contradiction | with_reducible assumption
  · rw [h1]
    refine r_iconst X dX3_fitting_8 (v := nI 0) (by decide) ?_
    refine r_goto X dX3_fitting_9 (tgt := 17) (by decide) ?_
    refine r_iret X dX3_fitting_17 (by first | decide | (simp only [rmv]; omega)) (by first | decide | (simp only [rmv]; omega)) ?_
    first | with_reducible rfl | (first | (simp [nFitting, er, h1]; done) | (simp [nFitting, er, tM, ms_o, ms_s, h1]; done) | (simp [nFitting, er, ms_s, h1]; done) | (simp [nFitting, er, ms_s, h1]; simp [tM, ms_o]; done); done) | contradiction | with_reducible assumption

set_option maxHeartbeats 4000000 in
set_option maxRecDepth 100000 in
theorem lp_ffm {p : Program} {l : Launch} {e : Env} {s : State} {m : MethodId} {args : Array Value} {below : List Frame} {meth : Method} {c : Code} {w : Wo} {M : Mem} {G : Lng} {x : Int32} {i : Nat} (hnt : l.stackTraces = false) (hw : WK w) (X : Cx p l (rmv 7 0 0) s m args meth c cX3_firstFitting 3 yX3_firstFitting.cls (some .int) [] w) (hD : DM M) (hx : x = nI i) (hi : i < 12) : ∀ (n k : Nat), k + n = ix (M 3 0 3) → ∀ oo : Oc, oo = nfF M G i n k → VE p l e (rmv 7 0 0) s m args below meth c (0) (0) (QV w (oo) below args s 0 0) 3 w 12 [some (.ref (w.1 (3, 0))), some (.int x), some (.int (nI k))] [] (ev w (M) (G)) := by
  intro n
  induction n with
  | zero =>
    intro k hk oo ho
    have h6 := hD.2.2.1.2
    refine r_iload_n X dX3_firstFitting_12 (i := 2) rfl rfl ?_
    refine r_aload_n X dX3_firstFitting_13 (i := 0) rfl rfl ?_
    refine r_get X kc3 (j := 3) (hw.2 _ _ (by first | decide | (simp [cnt] <;> omega))) ev3 (by decide) rfl fl_X3_86 dX3_firstFitting_14 ?_
    refine r_icmpr_ge X dX3_firstFitting_17 (tgt := 37) (by decide) (by with_reducible rfl) (hD.2.2.1.1) (by omega) (by omega) (fun h1 => ?_) (fun h1 => ?_)
    · refine r_aload_n X dX3_firstFitting_37 (i := 0) rfl rfl ?_
      refine r_iconst X dX3_firstFitting_38 (v := nI 2) (by decide) ?_
      refine r_callV X (c_X3_fail hnt hw ) mw_X3_fail kc3 mi_X3_fail (hw.2 _ _ (by first | decide | (simp [cnt] <;> omega))) ev3 ml_X3_93 rfl rfl (Nat.le_of_ble_eq_true rfl) (by first | decide | (simp only [rmv]; omega)) (by first | decide | (simp only [rmv]; omega)) (by first | decide | (simp only [rmv]; omega)) (by first | decide | (simp only [rmv]; omega)) dX3_firstFitting_39 (ko1 ?_)
      refine r_iret X dX3_firstFitting_42 (by first | decide | (simp only [rmv]; omega)) (by first | decide | (simp only [rmv]; omega)) ?_
      first | with_reducible rfl | (simp [ho, nfF, h1]; done) | contradiction | with_reducible assumption
    · exact absurd h1 (by omega)
  | succ n ih =>
    intro k hk oo ho
    have h6 := hD.2.2.1.2
    refine r_iload_n X dX3_firstFitting_12 (i := 2) rfl rfl ?_
    refine r_aload_n X dX3_firstFitting_13 (i := 0) rfl rfl ?_
    refine r_get X kc3 (j := 3) (hw.2 _ _ (by first | decide | (simp [cnt] <;> omega))) ev3 (by decide) rfl fl_X3_86 dX3_firstFitting_14 ?_
    refine r_icmpr_ge X dX3_firstFitting_17 (tgt := 37) (by decide) (by with_reducible rfl) (hD.2.2.1.1) (by omega) (by omega) (fun h1 => ?_) (fun h1 => ?_)
    · exact absurd h1 (by omega)
    · refine r_aload_n X dX3_firstFitting_20 (i := 0) rfl rfl ?_
      refine r_iload_n X dX3_firstFitting_21 (i := 1) rfl rfl ?_
      refine r_iload_n X dX3_firstFitting_22 (i := 2) rfl rfl ?_
      refine r_callV X (c_X3_fits hnt hw (by first | with_reducible assumption | with_reducible rfl | omega | (with_reducible (repeat (first | assumption | refine DM_t ?_ | refine DM_ms rfl ?_ | refine DM_gr ?_ | refine DM_nd ?_ | refine DM_tk ?_ | refine DM_pt ?_ | refine DM_bg ?_ | refine DM_cs ?_ | refine DM_kv ?_ | refine DM_bs ?_ | refine DM_co ?_ | refine DM_pu ?_)); done)) (by first | with_reducible assumption | with_reducible rfl | omega | (with_reducible (repeat (first | assumption | refine DM_t ?_ | refine DM_ms rfl ?_ | refine DM_gr ?_ | refine DM_nd ?_ | refine DM_tk ?_ | refine DM_pt ?_ | refine DM_bg ?_ | refine DM_cs ?_ | refine DM_kv ?_ | refine DM_bs ?_ | refine DM_co ?_ | refine DM_pu ?_)); done)) (by first | with_reducible assumption | with_reducible rfl | omega | (with_reducible (repeat (first | assumption | refine DM_t ?_ | refine DM_ms rfl ?_ | refine DM_gr ?_ | refine DM_nd ?_ | refine DM_tk ?_ | refine DM_pt ?_ | refine DM_bg ?_ | refine DM_cs ?_ | refine DM_kv ?_ | refine DM_bs ?_ | refine DM_co ?_ | refine DM_pu ?_)); done)) (by first | with_reducible assumption | with_reducible rfl | omega | (with_reducible (repeat (first | assumption | refine DM_t ?_ | refine DM_ms rfl ?_ | refine DM_gr ?_ | refine DM_nd ?_ | refine DM_tk ?_ | refine DM_pt ?_ | refine DM_bg ?_ | refine DM_cs ?_ | refine DM_kv ?_ | refine DM_bs ?_ | refine DM_co ?_ | refine DM_pu ?_)); done)) (by first | with_reducible assumption | with_reducible rfl | omega | (with_reducible (repeat (first | assumption | refine DM_t ?_ | refine DM_ms rfl ?_ | refine DM_gr ?_ | refine DM_nd ?_ | refine DM_tk ?_ | refine DM_pt ?_ | refine DM_bg ?_ | refine DM_cs ?_ | refine DM_kv ?_ | refine DM_bs ?_ | refine DM_co ?_ | refine DM_pu ?_)); done))) mw_X3_fits kc3 mi_X3_fits (hw.2 _ _ (by first | decide | (simp [cnt] <;> omega))) ev3 ml_X3_117 rfl rfl (Nat.le_of_ble_eq_true rfl) (by first | decide | (simp only [rmv]; omega)) (by first | decide | (simp only [rmv]; omega)) (by first | decide | (simp only [rmv]; omega)) (by first | decide | (simp only [rmv]; omega)) dX3_firstFitting_23 (ko1 ?_)
      first | with_reducible refine r_ifb_eq X dX3_firstFitting_26 (tgt := 31) (by decide) (fun h2 => ?_) (fun h2 => ?_) | refine r_if_eq X dX3_firstFitting_26 (tgt := 31) (by decide) (fun h2 => ?_) (fun h2 => ?_)
      · first | with_reducible refine r_iincn X dX3_firstFitting_31 rfl (by decide) rfl ?_ | refine r_iinc1 X dX3_firstFitting_31 rfl (by decide) rfl ?_
        refine r_goto X dX3_firstFitting_34 (tgt := 12) (by decide) ?_
        exact ih (k + 1) (by omega) oo (by rw [ho]; simp [nfF, h1, h2])
      · refine r_iload_n X dX3_firstFitting_29 (i := 2) rfl rfl ?_
        refine r_iret X dX3_firstFitting_30 (by first | decide | (simp only [rmv]; omega)) (by first | decide | (simp only [rmv]; omega)) ?_
        first | with_reducible rfl | (simp [ho, nfF, h1, h2]; done) | contradiction | with_reducible assumption

set_option maxHeartbeats 4000000 in
set_option maxRecDepth 100000 in
theorem c_X3_firstFitting {l : Launch} {w : Wo} {M : Mem} {G : Lng} {x : Int32} (hnt : l.stackTraces = false) (hw : WK w) (hD : DM M) : CT l yX3_firstFitting [Cond.code yX3_firstFitting cX3_firstFitting 3 (some .int)] 7 0 0 w [.ref (w.1 (3, 0)), .int x] M G (nFirst M G x) := by
  refine CT_of hnt hw.1 mw_X3_firstFitting (by simp [Value.category]) (Nat.le_of_ble_eq_true rfl) (fun p e s m args below meth c X => ?_)
  refine r_aload_n X dX3_firstFitting_0 (i := 0) rfl rfl ?_
  refine r_iload_n X dX3_firstFitting_1 (i := 1) rfl rfl ?_
  refine r_callV X (c_X3_noInstall hnt hw (by first | with_reducible assumption | with_reducible rfl | omega | (with_reducible (repeat (first | assumption | refine DM_t ?_ | refine DM_ms rfl ?_ | refine DM_gr ?_ | refine DM_nd ?_ | refine DM_tk ?_ | refine DM_pt ?_ | refine DM_bg ?_ | refine DM_cs ?_ | refine DM_kv ?_ | refine DM_bs ?_ | refine DM_co ?_ | refine DM_pu ?_)); done))) mw_X3_noInstall kc3 mi_X3_noInstall (hw.2 _ _ (by first | decide | (simp [cnt] <;> omega))) ev3 ml_X3_103 rfl rfl (Nat.le_of_ble_eq_true rfl) (by first | decide | (simp only [rmv]; omega)) (by first | decide | (simp only [rmv]; omega)) (by first | decide | (simp only [rmv]; omega)) (by first | decide | (simp only [rmv]; omega)) dX3_firstFitting_2 (ko1 ?_)
  first | with_reducible refine r_ifb_eq X dX3_firstFitting_5 (tgt := 10) (by decide) (fun h1 => ?_) (fun h1 => ?_) | refine r_if_eq X dX3_firstFitting_5 (tgt := 10) (by decide) (fun h1 => ?_) (fun h1 => ?_)
  · rw [h1]
    have hx1 := (nti_Rg hD h1).1
    have hx2 := (nti_Rg hD h1).2
    refine r_iconst X dX3_firstFitting_10 (v := nI 0) (by decide) ?_
    refine r_istore_n X dX3_firstFitting_11 (i := 2) rfl (by decide) rfl ?_
    exact lp_ffm hnt hw X (DM_t hD) hx1 hx2 (ix (tM M false 3 0 3)) 0 (by omega) _ (by simp [nFirst, h1])
  · rw [h1]
    refine r_iconst X dX3_firstFitting_8 (v := nI 0) (by decide) ?_
    refine r_iret X dX3_firstFitting_9 (by first | decide | (simp only [rmv]; omega)) (by first | decide | (simp only [rmv]; omega)) ?_
    first | with_reducible rfl | (first | (simp [nFirst, er, h1]; done) | (simp [nFirst, er, tM, ms_o, ms_s, h1]; done) | (simp [nFirst, er, ms_s, h1]; done) | (simp [nFirst, er, ms_s, h1]; simp [tM, ms_o]; done); done) | contradiction | with_reducible assumption

set_option maxHeartbeats 4000000 in
set_option maxRecDepth 100000 in
theorem c_X3_entitlementOf {l : Launch} {w : Wo} {M : Mem} {G : Lng} {x : Int32} (hnt : l.stackTraces = false) (hw : WK w) (hD : DM M) : CT l yX3_entitlementOf [Cond.code yX3_entitlementOf cX3_entitlementOf 2 (some .int)] 25 0 0 w [.ref (w.1 (3, 0)), .int x] M G (nEOf M G x) := by
  refine CT_of hnt hw.1 mw_X3_entitlementOf (by simp [Value.category]) (Nat.le_of_ble_eq_true rfl) (fun p e s m args below meth c X => ?_)
  refine r_aload_n X dX3_entitlementOf_0 (i := 0) rfl rfl ?_
  refine r_iload_n X dX3_entitlementOf_1 (i := 1) rfl rfl ?_
  refine r_callV X (c_X3_noInstall hnt hw (by first | with_reducible assumption | with_reducible rfl | omega | (with_reducible (repeat (first | assumption | refine DM_t ?_ | refine DM_ms rfl ?_ | refine DM_gr ?_ | refine DM_nd ?_ | refine DM_tk ?_ | refine DM_pt ?_ | refine DM_bg ?_ | refine DM_cs ?_ | refine DM_kv ?_ | refine DM_bs ?_ | refine DM_co ?_ | refine DM_pu ?_)); done))) mw_X3_noInstall kc3 mi_X3_noInstall (hw.2 _ _ (by first | decide | (simp [cnt] <;> omega))) ev3 ml_X3_103 rfl rfl (Nat.le_of_ble_eq_true rfl) (by first | decide | (simp only [rmv]; omega)) (by first | decide | (simp only [rmv]; omega)) (by first | decide | (simp only [rmv]; omega)) (by first | decide | (simp only [rmv]; omega)) dX3_entitlementOf_2 (ko1 ?_)
  first | with_reducible refine r_ifb_eq X dX3_entitlementOf_5 (tgt := 10) (by decide) (fun h1 => ?_) (fun h1 => ?_) | refine r_if_eq X dX3_entitlementOf_5 (tgt := 10) (by decide) (fun h1 => ?_) (fun h1 => ?_)
  · rw [h1]
    have hx1 := (nti_Rg hD h1).1
    have hx2 := (nti_Rg hD h1).2
    refine r_aload_n X dX3_entitlementOf_10 (i := 0) rfl rfl ?_
    refine r_callV X (c_X3_cover hnt hw (by first | with_reducible assumption | with_reducible rfl | omega | (with_reducible (repeat (first | assumption | refine DM_t ?_ | refine DM_ms rfl ?_ | refine DM_gr ?_ | refine DM_nd ?_ | refine DM_tk ?_ | refine DM_pt ?_ | refine DM_bg ?_ | refine DM_cs ?_ | refine DM_kv ?_ | refine DM_bs ?_ | refine DM_co ?_ | refine DM_pu ?_)); done))) mw_X3_cover kc3 mi_X3_cover (hw.2 _ _ (by first | decide | (simp [cnt] <;> omega))) ev3 ml_X3_148 rfl rfl (Nat.le_of_ble_eq_true rfl) (by first | decide | (simp only [rmv]; omega)) (by first | decide | (simp only [rmv]; omega)) (by first | decide | (simp only [rmv]; omega)) (by first | decide | (simp only [rmv]; omega)) dX3_entitlementOf_11 (ko0 ?_)
    refine r_aload_n X dX3_entitlementOf_14 (i := 0) rfl rfl ?_
    refine r_get X kc3 (j := 25) (hw.2 _ _ (by first | decide | (simp [cnt] <;> omega))) ev3 (by decide) rfl fl_X3_69 dX3_entitlementOf_15 ?_
    refine r_iload_n X dX3_entitlementOf_18 (i := 1) rfl rfl ?_
    refine r_iald X (hw.2 _ _ (by first | decide | (simp [cnt] <;> omega))) (evA (by decide) (by decide)) (by first | with_reducible rfl | with_reducible assumption | (rw [pk_mul, nI_add])) (by first | with_reducible assumption | (simp [alen] <;> omega)) (by decide) dX3_entitlementOf_19 ?_
    refine r_iconst X dX3_entitlementOf_20 (v := -1) (by decide) ?_
    first | with_reducible refine r_icmpn_ne X dX3_entitlementOf_21 (tgt := 30) (by decide) (by omega) (by omega) (fun h2 => ?_) (fun h2 => ?_) | refine r_icmp_ne X dX3_entitlementOf_21 (tgt := 30) (by decide) (fun h2 => ?_) (fun h2 => ?_)
    · refine r_aload_n X dX3_entitlementOf_30 (i := 0) rfl rfl ?_
      refine r_get X kc3 (j := 25) (hw.2 _ _ (by first | decide | (simp [cnt] <;> omega))) ev3 (by decide) rfl fl_X3_69 dX3_entitlementOf_31 ?_
      refine r_iload_n X dX3_entitlementOf_34 (i := 1) rfl rfl ?_
      refine r_iald X (hw.2 _ _ (by first | decide | (simp [cnt] <;> omega))) (evA (by decide) (by decide)) (by first | with_reducible rfl | with_reducible assumption | (rw [pk_mul, nI_add])) (by first | with_reducible assumption | (simp [alen] <;> omega)) (by decide) dX3_entitlementOf_35 ?_
      refine r_iret X dX3_entitlementOf_36 (by first | decide | (simp only [rmv]; omega)) (by first | decide | (simp only [rmv]; omega)) ?_
      first | with_reducible rfl | (simp [nEOf, h1, h2]; done) | contradiction | with_reducible assumption
    · refine r_aload_n X dX3_entitlementOf_24 (i := 0) rfl rfl ?_
      refine r_iconst X dX3_entitlementOf_25 (v := nI 2) (by decide) ?_
      refine r_callV X (c_X3_fail hnt hw ) mw_X3_fail kc3 mi_X3_fail (hw.2 _ _ (by first | decide | (simp [cnt] <;> omega))) ev3 ml_X3_93 rfl rfl (Nat.le_of_ble_eq_true rfl) (by first | decide | (simp only [rmv]; omega)) (by first | decide | (simp only [rmv]; omega)) (by first | decide | (simp only [rmv]; omega)) (by first | decide | (simp only [rmv]; omega)) dX3_entitlementOf_26 (ko1 ?_)
      refine r_iret X dX3_entitlementOf_29 (by first | decide | (simp only [rmv]; omega)) (by first | decide | (simp only [rmv]; omega)) ?_
      first | with_reducible rfl | (simp [nEOf, h1, h2]; done) | contradiction | with_reducible assumption
  · rw [h1]
    refine r_iconst X dX3_entitlementOf_8 (v := nI 0) (by decide) ?_
    refine r_iret X dX3_entitlementOf_9 (by first | decide | (simp only [rmv]; omega)) (by first | decide | (simp only [rmv]; omega)) ?_
    first | with_reducible rfl | (simp [nEOf, h1]; done) | contradiction | with_reducible assumption

set_option maxHeartbeats 4000000 in
set_option maxRecDepth 100000 in
theorem c_X3_reason {l : Launch} {w : Wo} {M : Mem} {G : Lng} {x : Int32} (hnt : l.stackTraces = false) (hw : WK w) (hD : DM M) : CT l yX3_reason [Cond.code yX3_reason cX3_reason 2 (some .char)] 25 0 0 w [.ref (w.1 (3, 0)), .int x] M G (nReason M G x) := by
  refine CT_of hnt hw.1 mw_X3_reason (by simp [Value.category]) (Nat.le_of_ble_eq_true rfl) (fun p e s m args below meth c X => ?_)
  refine r_aload_n X dX3_reason_0 (i := 0) rfl rfl ?_
  refine r_iload_n X dX3_reason_1 (i := 1) rfl rfl ?_
  refine r_callV X (c_X3_noInstall hnt hw (by first | with_reducible assumption | with_reducible rfl | omega | (with_reducible (repeat (first | assumption | refine DM_t ?_ | refine DM_ms rfl ?_ | refine DM_gr ?_ | refine DM_nd ?_ | refine DM_tk ?_ | refine DM_pt ?_ | refine DM_bg ?_ | refine DM_cs ?_ | refine DM_kv ?_ | refine DM_bs ?_ | refine DM_co ?_ | refine DM_pu ?_)); done))) mw_X3_noInstall kc3 mi_X3_noInstall (hw.2 _ _ (by first | decide | (simp [cnt] <;> omega))) ev3 ml_X3_103 rfl rfl (Nat.le_of_ble_eq_true rfl) (by first | decide | (simp only [rmv]; omega)) (by first | decide | (simp only [rmv]; omega)) (by first | decide | (simp only [rmv]; omega)) (by first | decide | (simp only [rmv]; omega)) dX3_reason_2 (ko1 ?_)
  first | with_reducible refine r_ifb_eq X dX3_reason_5 (tgt := 11) (by decide) (fun h1 => ?_) (fun h1 => ?_) | refine r_if_eq X dX3_reason_5 (tgt := 11) (by decide) (fun h1 => ?_) (fun h1 => ?_)
  · rw [h1]
    have hx1 := (nti_Rg hD h1).1
    have hx2 := (nti_Rg hD h1).2
    refine r_aload_n X dX3_reason_11 (i := 0) rfl rfl ?_
    refine r_callV X (c_X3_cover hnt hw (by first | with_reducible assumption | with_reducible rfl | omega | (with_reducible (repeat (first | assumption | refine DM_t ?_ | refine DM_ms rfl ?_ | refine DM_gr ?_ | refine DM_nd ?_ | refine DM_tk ?_ | refine DM_pt ?_ | refine DM_bg ?_ | refine DM_cs ?_ | refine DM_kv ?_ | refine DM_bs ?_ | refine DM_co ?_ | refine DM_pu ?_)); done))) mw_X3_cover kc3 mi_X3_cover (hw.2 _ _ (by first | decide | (simp [cnt] <;> omega))) ev3 ml_X3_148 rfl rfl (Nat.le_of_ble_eq_true rfl) (by first | decide | (simp only [rmv]; omega)) (by first | decide | (simp only [rmv]; omega)) (by first | decide | (simp only [rmv]; omega)) (by first | decide | (simp only [rmv]; omega)) dX3_reason_12 (ko0 ?_)
    refine r_aload_n X dX3_reason_15 (i := 0) rfl rfl ?_
    refine r_get X kc3 (j := 25) (hw.2 _ _ (by first | decide | (simp [cnt] <;> omega))) ev3 (by decide) rfl fl_X3_69 dX3_reason_16 ?_
    refine r_iload_n X dX3_reason_19 (i := 1) rfl rfl ?_
    refine r_iald X (hw.2 _ _ (by first | decide | (simp [cnt] <;> omega))) (evA (by decide) (by decide)) (by first | with_reducible rfl | with_reducible assumption | (rw [pk_mul, nI_add])) (by first | with_reducible assumption | (simp [alen] <;> omega)) (by decide) dX3_reason_20 ?_
    refine r_iconst X dX3_reason_21 (v := -1) (by decide) ?_
    first | with_reducible refine r_icmpn_eq X dX3_reason_22 (tgt := 30) (by decide) (by omega) (by omega) (fun h2 => ?_) (fun h2 => ?_) | refine r_icmp_eq X dX3_reason_22 (tgt := 30) (by decide) (fun h2 => ?_) (fun h2 => ?_)
    · refine r_aload_n X dX3_reason_30 (i := 0) rfl rfl ?_
      refine r_iload_n X dX3_reason_31 (i := 1) rfl rfl ?_
      refine r_callV X (c_X3_fits_ hnt hw (by first | with_reducible assumption | with_reducible rfl | omega | (with_reducible (repeat (first | assumption | refine DM_t ?_ | refine DM_ms rfl ?_ | refine DM_gr ?_ | refine DM_nd ?_ | refine DM_tk ?_ | refine DM_pt ?_ | refine DM_bg ?_ | refine DM_cs ?_ | refine DM_kv ?_ | refine DM_bs ?_ | refine DM_co ?_ | refine DM_pu ?_)); done)) (by first | with_reducible assumption | with_reducible rfl | omega | (with_reducible (repeat (first | assumption | refine DM_t ?_ | refine DM_ms rfl ?_ | refine DM_gr ?_ | refine DM_nd ?_ | refine DM_tk ?_ | refine DM_pt ?_ | refine DM_bg ?_ | refine DM_cs ?_ | refine DM_kv ?_ | refine DM_bs ?_ | refine DM_co ?_ | refine DM_pu ?_)); done)) (by first | with_reducible assumption | with_reducible rfl | omega | (with_reducible (repeat (first | assumption | refine DM_t ?_ | refine DM_ms rfl ?_ | refine DM_gr ?_ | refine DM_nd ?_ | refine DM_tk ?_ | refine DM_pt ?_ | refine DM_bg ?_ | refine DM_cs ?_ | refine DM_kv ?_ | refine DM_bs ?_ | refine DM_co ?_ | refine DM_pu ?_)); done))) mw_X3_fits_ kc3 mi_X3_fits_ (hw.2 _ _ (by first | decide | (simp [cnt] <;> omega))) ev3 ml_X3_120 rfl rfl (Nat.le_of_ble_eq_true rfl) (by first | decide | (simp only [rmv]; omega)) (by first | decide | (simp only [rmv]; omega)) (by first | decide | (simp only [rmv]; omega)) (by first | decide | (simp only [rmv]; omega)) dX3_reason_32 (ko1 ?_)
      first | with_reducible refine r_ifb_ne X dX3_reason_35 (tgt := 43) (by decide) (fun h3 => ?_) (fun h3 => ?_) | refine r_if_ne X dX3_reason_35 (tgt := 43) (by decide) (fun h3 => ?_) (fun h3 => ?_)
      · refine r_bipush X dX3_reason_43 (v := nI 117) (by decide) ?_
        refine r_cret X dX3_reason_45 (by first | with_reducible exact mis_c _ _ _ | with_reducible exact mim_c _ _ _ | rfl | assumption) (by first | decide | (simp only [rmv]; omega)) (by first | decide | (simp only [rmv]; omega)) ?_
        first | with_reducible rfl | (simp [nReason, h1, h2, h3]; done) | contradiction
      · refine r_bipush X dX3_reason_38 (v := nI 110) (by decide) ?_
        refine r_goto X dX3_reason_40 (tgt := 45) (by decide) ?_
        refine r_cret X dX3_reason_45 (by first | with_reducible exact mis_c _ _ _ | with_reducible exact mim_c _ _ _ | rfl | assumption) (by first | decide | (simp only [rmv]; omega)) (by first | decide | (simp only [rmv]; omega)) ?_
        first | with_reducible rfl | (simp [nReason, h1, h2, h3]; done) | contradiction
    · refine r_bipush X dX3_reason_25 (v := nI 99) (by decide) ?_
      refine r_goto X dX3_reason_27 (tgt := 45) (by decide) ?_
      refine r_cret X dX3_reason_45 (by first | with_reducible exact mis_c _ _ _ | with_reducible exact mim_c _ _ _ | rfl | assumption) (by first | decide | (simp only [rmv]; omega)) (by first | decide | (simp only [rmv]; omega)) ?_
      first | with_reducible rfl | (simp [nReason, h1, h2]; done) | contradiction
  · rw [h1]
    refine r_bipush X dX3_reason_8 (v := nI 99) (by decide) ?_
    refine r_cret X dX3_reason_10 (by first | with_reducible exact mis_c _ _ _ | with_reducible exact mim_c _ _ _ | rfl | assumption) (by first | decide | (simp only [rmv]; omega)) (by first | decide | (simp only [rmv]; omega)) ?_
    first | with_reducible rfl | (simp [nReason, h1]; done) | contradiction

set_option maxHeartbeats 4000000 in
set_option maxRecDepth 100000 in
theorem c_X3_used {l : Launch} {w : Wo} {M : Mem} {G : Lng} {x : Int32} (hnt : l.stackTraces = false) (hw : WK w) (hD : DM M) : CT l yX3_used [Cond.code yX3_used cX3_used 2 (some .int)] 25 0 0 w [.ref (w.1 (3, 0)), .int x] M G (nUsed M G x) := by
  refine CT_of hnt hw.1 mw_X3_used (by simp [Value.category]) (Nat.le_of_ble_eq_true rfl) (fun p e s m args below meth c X => ?_)
  refine r_aload_n X dX3_used_0 (i := 0) rfl rfl ?_
  refine r_iload_n X dX3_used_1 (i := 1) rfl rfl ?_
  refine r_callV X (c_X3_noEntitlement hnt hw ) mw_X3_noEntitlement kc3 mi_X3_noEntitlement (hw.2 _ _ (by first | decide | (simp [cnt] <;> omega))) ev3 ml_X3_106 rfl rfl (Nat.le_of_ble_eq_true rfl) (by first | decide | (simp only [rmv]; omega)) (by first | decide | (simp only [rmv]; omega)) (by first | decide | (simp only [rmv]; omega)) (by first | decide | (simp only [rmv]; omega)) dX3_used_2 (ko1 ?_)
  first | with_reducible refine r_ifb_eq X dX3_used_5 (tgt := 10) (by decide) (fun h1 => ?_) (fun h1 => ?_) | refine r_if_eq X dX3_used_5 (tgt := 10) (by decide) (fun h1 => ?_) (fun h1 => ?_)
  · rw [h1]
    have hy1 := (nte_Rg hD h1).1
    have hy2 := (nte_Rg hD h1).2
    refine r_aload_n X dX3_used_10 (i := 0) rfl rfl ?_
    refine r_callV X (c_X3_cover hnt hw (by first | with_reducible assumption | with_reducible rfl | omega | (with_reducible (repeat (first | assumption | refine DM_t ?_ | refine DM_ms rfl ?_ | refine DM_gr ?_ | refine DM_nd ?_ | refine DM_tk ?_ | refine DM_pt ?_ | refine DM_bg ?_ | refine DM_cs ?_ | refine DM_kv ?_ | refine DM_bs ?_ | refine DM_co ?_ | refine DM_pu ?_)); done))) mw_X3_cover kc3 mi_X3_cover (hw.2 _ _ (by first | decide | (simp [cnt] <;> omega))) ev3 ml_X3_148 rfl rfl (Nat.le_of_ble_eq_true rfl) (by first | decide | (simp only [rmv]; omega)) (by first | decide | (simp only [rmv]; omega)) (by first | decide | (simp only [rmv]; omega)) (by first | decide | (simp only [rmv]; omega)) dX3_used_11 (ko0 ?_)
    refine r_aload_n X dX3_used_14 (i := 0) rfl rfl ?_
    refine r_iload_n X dX3_used_15 (i := 1) rfl rfl ?_
    refine r_callV X (c_X3_needs hnt hw (by first | with_reducible assumption | with_reducible rfl | omega | (with_reducible (repeat (first | assumption | refine DM_t ?_ | refine DM_ms rfl ?_ | refine DM_gr ?_ | refine DM_nd ?_ | refine DM_tk ?_ | refine DM_pt ?_ | refine DM_bg ?_ | refine DM_cs ?_ | refine DM_kv ?_ | refine DM_bs ?_ | refine DM_co ?_ | refine DM_pu ?_)); done)) (by first | with_reducible assumption | with_reducible rfl | omega | (with_reducible (repeat (first | assumption | refine DM_t ?_ | refine DM_ms rfl ?_ | refine DM_gr ?_ | refine DM_nd ?_ | refine DM_tk ?_ | refine DM_pt ?_ | refine DM_bg ?_ | refine DM_cs ?_ | refine DM_kv ?_ | refine DM_bs ?_ | refine DM_co ?_ | refine DM_pu ?_)); done)) (by first | with_reducible assumption | with_reducible rfl | omega | (with_reducible (repeat (first | assumption | refine DM_t ?_ | refine DM_ms rfl ?_ | refine DM_gr ?_ | refine DM_nd ?_ | refine DM_tk ?_ | refine DM_pt ?_ | refine DM_bg ?_ | refine DM_cs ?_ | refine DM_kv ?_ | refine DM_bs ?_ | refine DM_co ?_ | refine DM_pu ?_)); done))) mw_X3_needs kc3 mi_X3_needs (hw.2 _ _ (by first | decide | (simp [cnt] <;> omega))) ev3 ml_X3_126 rfl rfl (Nat.le_of_ble_eq_true rfl) (by first | decide | (simp only [rmv]; omega)) (by first | decide | (simp only [rmv]; omega)) (by first | decide | (simp only [rmv]; omega)) (by first | decide | (simp only [rmv]; omega)) dX3_used_16 (ko1 ?_)
    refine r_iret X dX3_used_19 (by first | decide | (simp only [rmv]; omega)) (by first | decide | (simp only [rmv]; omega)) ?_
    first | with_reducible rfl | (simp [nUsed, h1]; done) | contradiction | with_reducible assumption
  · rw [h1]
    refine r_iconst X dX3_used_8 (v := nI 0) (by decide) ?_
    refine r_iret X dX3_used_9 (by first | decide | (simp only [rmv]; omega)) (by first | decide | (simp only [rmv]; omega)) ?_
    first | with_reducible rfl | (simp [nUsed, h1]; done) | contradiction | with_reducible assumption


set_option maxHeartbeats 4000000 in
set_option maxRecDepth 100000 in
theorem lp_ufm {p : Program} {l : Launch} {e : Env} {s : State} {m : MethodId} {args : Array Value} {below : List Frame} {meth : Method} {c : Code} {w : Wo} {M : Mem} {G : Lng} {x : Int32} {e9 : Nat} (hnt : l.stackTraces = false) (hw : WK w) (X : Cx p l (rmv 7 0 0) s m args meth c cX3_unitsForAll 3 yX3_unitsForAll.cls (some .int) [] w) (hD : DM M) (hx : x = nI e9) (he : e9 < 5) : ∀ (n k : Nat) (M1 : Mem), k + n = ix (M 3 0 1) → M1 = itn (ufH e9) k M → DM M1 → M1 3 0 1 = M 3 0 1 → VE p l e (rmv 7 0 0) s m args below meth c (0) (0) (QV w (okO (some (.int (ndV (uhN M e9) e9))) (ndM (uhN M e9) e9) G) below args s 0 0) 3 w 12 [some (.ref (w.1 (3, 0))), some (.int x), some (.int (nI k))] [] (ev w (M1) (G)) := by
  intro n
  induction n with
  | zero =>
    intro k M1 hk hM hD1 hE
    have h6 := hD.1.2
    refine r_iload_n X dX3_unitsForAll_12 (i := 2) rfl rfl ?_
    refine r_aload_n X dX3_unitsForAll_13 (i := 0) rfl rfl ?_
    refine r_get X kc3 (j := 1) (hw.2 _ _ (by first | decide | (simp [cnt] <;> omega))) ev3 (by decide) rfl fl_X3_100 dX3_unitsForAll_14 ?_
    refine r_icmpr_ge X dX3_unitsForAll_17 (tgt := 46) (by decide) (by with_reducible rfl) (hE.trans hD.1.1) (by omega) (by omega) (fun h1 => ?_) (fun h1 => ?_)
    · refine r_aload_n X dX3_unitsForAll_46 (i := 0) rfl rfl ?_
      refine r_iload_n X dX3_unitsForAll_47 (i := 1) rfl rfl ?_
      refine r_callV X (c_X3_needs hnt hw (by first | with_reducible assumption | with_reducible rfl | omega | (with_reducible (repeat (first | assumption | refine DM_t ?_ | refine DM_ms rfl ?_ | refine DM_gr ?_ | refine DM_nd ?_ | refine DM_tk ?_ | refine DM_pt ?_ | refine DM_bg ?_ | refine DM_cs ?_ | refine DM_kv ?_ | refine DM_bs ?_ | refine DM_co ?_ | refine DM_pu ?_)); done)) (by first | with_reducible assumption | with_reducible rfl | omega | (with_reducible (repeat (first | assumption | refine DM_t ?_ | refine DM_ms rfl ?_ | refine DM_gr ?_ | refine DM_nd ?_ | refine DM_tk ?_ | refine DM_pt ?_ | refine DM_bg ?_ | refine DM_cs ?_ | refine DM_kv ?_ | refine DM_bs ?_ | refine DM_co ?_ | refine DM_pu ?_)); done)) (by first | with_reducible assumption | with_reducible rfl | omega | (with_reducible (repeat (first | assumption | refine DM_t ?_ | refine DM_ms rfl ?_ | refine DM_gr ?_ | refine DM_nd ?_ | refine DM_tk ?_ | refine DM_pt ?_ | refine DM_bg ?_ | refine DM_cs ?_ | refine DM_kv ?_ | refine DM_bs ?_ | refine DM_co ?_ | refine DM_pu ?_)); done))) mw_X3_needs kc3 mi_X3_needs (hw.2 _ _ (by first | decide | (simp [cnt] <;> omega))) ev3 ml_X3_126 rfl rfl (Nat.le_of_ble_eq_true rfl) (by first | decide | (simp only [rmv]; omega)) (by first | decide | (simp only [rmv]; omega)) (by first | decide | (simp only [rmv]; omega)) (by first | decide | (simp only [rmv]; omega)) dX3_unitsForAll_48 (ko1 ?_)
      refine r_iret X dX3_unitsForAll_51 (by first | decide | (simp only [rmv]; omega)) (by first | decide | (simp only [rmv]; omega)) ?_
      first | with_reducible rfl | (((have hkk : k = ix (M 3 0 1) := by omega); rw [hM, hkk]; rfl); done) | contradiction | with_reducible assumption
    · exact absurd h1 (by omega)
  | succ n ih =>
    intro k M1 hk hM hD1 hE
    have h6 := hD.1.2
    refine r_iload_n X dX3_unitsForAll_12 (i := 2) rfl rfl ?_
    refine r_aload_n X dX3_unitsForAll_13 (i := 0) rfl rfl ?_
    refine r_get X kc3 (j := 1) (hw.2 _ _ (by first | decide | (simp [cnt] <;> omega))) ev3 (by decide) rfl fl_X3_100 dX3_unitsForAll_14 ?_
    refine r_icmpr_ge X dX3_unitsForAll_17 (tgt := 46) (by decide) (by with_reducible rfl) (hE.trans hD.1.1) (by omega) (by omega) (fun h1 => ?_) (fun h1 => ?_)
    · exact absurd h1 (by omega)
    · refine r_aload_n X dX3_unitsForAll_20 (i := 0) rfl rfl ?_
      refine r_get X kc3 (j := 25) (hw.2 _ _ (by first | decide | (simp [cnt] <;> omega))) ev3 (by decide) rfl fl_X3_69 dX3_unitsForAll_21 ?_
      refine r_iload_n X dX3_unitsForAll_24 (i := 2) rfl rfl ?_
      refine r_aload_n X dX3_unitsForAll_25 (i := 0) rfl rfl ?_
      refine r_iload_n X dX3_unitsForAll_26 (i := 2) rfl rfl ?_
      refine r_iload_n X dX3_unitsForAll_27 (i := 1) rfl rfl ?_
      refine r_callV X (c_X3_fits hnt hw (by first | with_reducible assumption | with_reducible rfl | omega | (with_reducible (repeat (first | assumption | refine DM_t ?_ | refine DM_ms rfl ?_ | refine DM_gr ?_ | refine DM_nd ?_ | refine DM_tk ?_ | refine DM_pt ?_ | refine DM_bg ?_ | refine DM_cs ?_ | refine DM_kv ?_ | refine DM_bs ?_ | refine DM_co ?_ | refine DM_pu ?_)); done)) (by first | with_reducible assumption | with_reducible rfl | omega | (with_reducible (repeat (first | assumption | refine DM_t ?_ | refine DM_ms rfl ?_ | refine DM_gr ?_ | refine DM_nd ?_ | refine DM_tk ?_ | refine DM_pt ?_ | refine DM_bg ?_ | refine DM_cs ?_ | refine DM_kv ?_ | refine DM_bs ?_ | refine DM_co ?_ | refine DM_pu ?_)); done)) (by first | with_reducible assumption | with_reducible rfl | omega | (with_reducible (repeat (first | assumption | refine DM_t ?_ | refine DM_ms rfl ?_ | refine DM_gr ?_ | refine DM_nd ?_ | refine DM_tk ?_ | refine DM_pt ?_ | refine DM_bg ?_ | refine DM_cs ?_ | refine DM_kv ?_ | refine DM_bs ?_ | refine DM_co ?_ | refine DM_pu ?_)); done)) (by first | with_reducible assumption | with_reducible rfl | omega | (with_reducible (repeat (first | assumption | refine DM_t ?_ | refine DM_ms rfl ?_ | refine DM_gr ?_ | refine DM_nd ?_ | refine DM_tk ?_ | refine DM_pt ?_ | refine DM_bg ?_ | refine DM_cs ?_ | refine DM_kv ?_ | refine DM_bs ?_ | refine DM_co ?_ | refine DM_pu ?_)); done)) (by first | with_reducible assumption | with_reducible rfl | omega | (with_reducible (repeat (first | assumption | refine DM_t ?_ | refine DM_ms rfl ?_ | refine DM_gr ?_ | refine DM_nd ?_ | refine DM_tk ?_ | refine DM_pt ?_ | refine DM_bg ?_ | refine DM_cs ?_ | refine DM_kv ?_ | refine DM_bs ?_ | refine DM_co ?_ | refine DM_pu ?_)); done))) mw_X3_fits kc3 mi_X3_fits (hw.2 _ _ (by first | decide | (simp [cnt] <;> omega))) ev3 ml_X3_117 rfl rfl (Nat.le_of_ble_eq_true rfl) (by first | decide | (simp only [rmv]; omega)) (by first | decide | (simp only [rmv]; omega)) (by first | decide | (simp only [rmv]; omega)) (by first | decide | (simp only [rmv]; omega)) dX3_unitsForAll_28 (ko1 ?_)
      first | with_reducible refine r_ifb_eq X dX3_unitsForAll_31 (tgt := 38) (by decide) (fun h2 => ?_) (fun h2 => ?_) | refine r_if_eq X dX3_unitsForAll_31 (tgt := 38) (by decide) (fun h2 => ?_) (fun h2 => ?_)
      · refine r_iconst X dX3_unitsForAll_38 (v := -1) (by decide) ?_
        refine r_iast X (hw.2 _ _ (by first | decide | (simp [cnt] <;> omega))) (evA (by decide) (by decide)) (by first | with_reducible rfl | with_reducible assumption | (rw [pk_mul, nI_add])) (by first | with_reducible assumption | (simp [alen] <;> omega)) (by decide) rfl dX3_unitsForAll_39 (esA (by decide) (by decide)) ?_
        first | with_reducible refine r_iincn X dX3_unitsForAll_40 rfl (by decide) rfl ?_ | refine r_iinc1 X dX3_unitsForAll_40 rfl (by decide) rfl ?_
        refine r_goto X dX3_unitsForAll_43 (tgt := 12) (by decide) ?_
        exact ih (k + 1) _ (by omega) (by rw [itn, ← hM]; simp [ufH, hx, h1, h2]) (by first | with_reducible assumption | with_reducible rfl | omega | (with_reducible (repeat (first | assumption | refine DM_t ?_ | refine DM_ms rfl ?_ | refine DM_gr ?_ | refine DM_nd ?_ | refine DM_tk ?_ | refine DM_pt ?_ | refine DM_bg ?_ | refine DM_cs ?_ | refine DM_kv ?_ | refine DM_bs ?_ | refine DM_co ?_ | refine DM_pu ?_)); done)) (by rw [ms_o (fun h => absurd h.1 (by decide))]; exact hE)
      · refine r_iload_n X dX3_unitsForAll_34 (i := 1) rfl rfl ?_
        refine r_goto X dX3_unitsForAll_35 (tgt := 39) (by decide) ?_
        refine r_iast X (hw.2 _ _ (by first | decide | (simp [cnt] <;> omega))) (evA (by decide) (by decide)) (by first | with_reducible rfl | with_reducible assumption | (rw [pk_mul, nI_add])) (by first | with_reducible assumption | (simp [alen] <;> omega)) (by decide) rfl dX3_unitsForAll_39 (esA (by decide) (by decide)) ?_
        first | with_reducible refine r_iincn X dX3_unitsForAll_40 rfl (by decide) rfl ?_ | refine r_iinc1 X dX3_unitsForAll_40 rfl (by decide) rfl ?_
        refine r_goto X dX3_unitsForAll_43 (tgt := 12) (by decide) ?_
        exact ih (k + 1) _ (by omega) (by rw [itn, ← hM]; simp [ufH, hx, h1, h2]) (by first | with_reducible assumption | with_reducible rfl | omega | (with_reducible (repeat (first | assumption | refine DM_t ?_ | refine DM_ms rfl ?_ | refine DM_gr ?_ | refine DM_nd ?_ | refine DM_tk ?_ | refine DM_pt ?_ | refine DM_bg ?_ | refine DM_cs ?_ | refine DM_kv ?_ | refine DM_bs ?_ | refine DM_co ?_ | refine DM_pu ?_)); done)) (by rw [ms_o (fun h => absurd h.1 (by decide))]; exact hE)

set_option maxHeartbeats 4000000 in
set_option maxRecDepth 100000 in
theorem c_X3_unitsForAll {l : Launch} {w : Wo} {M : Mem} {G : Lng} {x : Int32} (hnt : l.stackTraces = false) (hw : WK w) (hD : DM M) : CT l yX3_unitsForAll [Cond.code yX3_unitsForAll cX3_unitsForAll 3 (some .int)] 7 0 0 w [.ref (w.1 (3, 0)), .int x] M G (nUFA M G x) := by
  refine CT_of hnt hw.1 mw_X3_unitsForAll (by simp [Value.category]) (Nat.le_of_ble_eq_true rfl) (fun p e s m args below meth c X => ?_)
  refine r_aload_n X dX3_unitsForAll_0 (i := 0) rfl rfl ?_
  refine r_iload_n X dX3_unitsForAll_1 (i := 1) rfl rfl ?_
  refine r_callV X (c_X3_noEntitlement hnt hw ) mw_X3_noEntitlement kc3 mi_X3_noEntitlement (hw.2 _ _ (by first | decide | (simp [cnt] <;> omega))) ev3 ml_X3_106 rfl rfl (Nat.le_of_ble_eq_true rfl) (by first | decide | (simp only [rmv]; omega)) (by first | decide | (simp only [rmv]; omega)) (by first | decide | (simp only [rmv]; omega)) (by first | decide | (simp only [rmv]; omega)) dX3_unitsForAll_2 (ko1 ?_)
  first | with_reducible refine r_ifb_eq X dX3_unitsForAll_5 (tgt := 10) (by decide) (fun h1 => ?_) (fun h1 => ?_) | refine r_if_eq X dX3_unitsForAll_5 (tgt := 10) (by decide) (fun h1 => ?_) (fun h1 => ?_)
  · rw [h1]
    have hy1 := (nte_Rg hD h1).1
    have hy2 := (nte_Rg hD h1).2
    refine r_iconst X dX3_unitsForAll_10 (v := nI 0) (by decide) ?_
    refine r_istore_n X dX3_unitsForAll_11 (i := 2) rfl (by decide) rfl ?_
    have ho : nUFA M G x = okO (some (.int (ndV (uhN (tM M false) (ix x)) (ix x)))) (ndM (uhN (tM M false) (ix x)) (ix x)) G := by simp [nUFA, h1]
    rw [ho]
    exact lp_ufm hnt hw X (DM_t hD) hy1 hy2 (ix (tM M false 3 0 1)) 0 _ (by omega) (itn0 _ _).symm (DM_t hD) rfl
  · rw [h1]
    refine r_iconst X dX3_unitsForAll_8 (v := nI 0) (by decide) ?_
    refine r_iret X dX3_unitsForAll_9 (by first | decide | (simp only [rmv]; omega)) (by first | decide | (simp only [rmv]; omega)) ?_
    first | with_reducible rfl | (first | (simp [nUFA, er, h1]; done) | (simp [nUFA, er, tM, ms_o, ms_s, h1]; done) | (simp [nUFA, er, ms_s, h1]; done) | (simp [nUFA, er, ms_s, h1]; simp [tM, ms_o]; done); done) | contradiction | with_reducible assumption

end N3
