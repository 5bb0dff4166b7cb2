/-! THE MODEL: what assignments need -/
section N2
def zcG (p : Nat) (A : Mem) : Mem := ms A 31 0 p (nI 0)
def gaG (e at_ us : Int32) (i : Nat) (A : Mem) : Mem := if A 17 0 i = 0 ∧ A 29 0 i = e ∧ (if us = 0 then A 13 0 i else A 14 0 i) = at_ then ms A 31 0 (ix (A 10 0 i)) (A 31 0 (ix (A 10 0 i)) + nI 1) else A
def grM (M : Mem) (e at_ us : Int32) : Mem := itn (gaG e at_ us) (ix (M 3 0 1)) (itn zcG 4 M)
def mxc (A : Mem) : Nat → Int32
  | 0 => nI 0
  | k + 1 => if A 31 0 k ≤ mxc A k then mxc A k else A 31 0 k
def nsC (M : Mem) (e : Nat) : Nat → Int32
  | 0 => nI 0
  | k + 1 => if M 17 0 k = 0 ∧ M 29 0 k = nI e then nsC M e k + (if M 15 0 k ≤ M 26 0 e then M 26 0 e else M 15 0 k) else nsC M e k
def ndG (e k : Nat) (A : Mem) : Mem := grM A (nI e) (nI k) (if A 28 0 e = nI 117 then nI 1 else nI 0)
def vf (A : Mem) (e : Nat) : Int32 := if A 28 0 e = nI 117 ∧ ¬ A 20 0 e = 0 then (mxc A 4 + nI 1) / nI 2 else mxc A 4
def ndS (M : Mem) (e : Nat) : Nat → Int32
  | 0 => nI 0
  | k + 1 => ndS M e k + vf (itn (ndG e) (k + 1) M) e
def ndM (M : Mem) (e : Nat) : Mem := if M 28 0 e = nI 99 then M else itn (ndG e) 10 M
def ndV (M : Mem) (e : Nat) : Int32 := if M 28 0 e = nI 99 then nsC M e (ix (M 3 0 1)) else ndS M e 10
theorem Mm_gr {M M1 : Mem} {e a u : Int32} (h : Mm M M1) : Mm M (grM M1 e a u) := by
  refine Mm_itn (g := gaG e a u) (fun k A h => ?_) (Mm_itn (g := zcG) (fun _ _ h => Mm_ms h rfl) h 4) _
  unfold gaG
  split <;> split <;> first | exact Mm_ms h rfl | exact h
theorem Mm_ndG {M M1 : Mem} {e k : Nat} (h : Mm M M1) : Mm M (itn (ndG e) k M1) := Mm_itn (fun k A h => Mm_gr h) h k
theorem Mm_nd {M M1 : Mem} {e : Nat} (h : Mm M M1) : Mm M (ndM M1 e) := by
  unfold ndM; split
  · exact h
  · exact Mm_ndG h
theorem DM_gr {M : Mem} {e a u : Int32} (h : DM M) : DM (grM M e a u) := h.mm (Mm_gr Mm.rf)
theorem DM_nd {M : Mem} {e : Nat} (h : DM M) : DM (ndM M e) := h.mm (Mm_nd Mm.rf)
def tkG (i : Nat) (A : Mem) : Mem := ms A 30 0 i (A 29 0 i)
def tkN (M : Mem) : Mem := itn tkG (ix (M 3 0 1)) M
def ptG (i : Nat) (A : Mem) : Mem := ms A 29 0 i (A 30 0 i)
def ptN (M : Mem) : Mem := itn ptG (ix (M 3 0 1)) M
def bgG (i : Nat) (A : Mem) : Mem := ms A 29 0 i (-1)
def bgN (M : Mem) : Mem := itn bgG (ix (M 3 0 1)) (ms M 3 0 4 (-1))
theorem Mm_tk {M M1 : Mem} (h : Mm M M1) : Mm M (tkN M1) := Mm_itn (fun _ _ h => Mm_ms h rfl) h _
theorem Mm_pt {M M1 : Mem} (h : Mm M M1) : Mm M (ptN M1) := Mm_itn (fun _ _ h => Mm_ms h rfl) h _
theorem Mm_bg {M M1 : Mem} (h : Mm M M1) : Mm M (bgN M1) := Mm_itn (fun _ _ h => Mm_ms h rfl) (Mm_ms h rfl) _
theorem DM_tk {M : Mem} (h : DM M) : DM (tkN M) := h.mm (Mm_tk Mm.rf)
theorem DM_pt {M : Mem} (h : DM M) : DM (ptN M) := h.mm (Mm_pt Mm.rf)
theorem DM_bg {M : Mem} (h : DM M) : DM (bgN M) := h.mm (Mm_bg Mm.rf)
def byV (M : Mem) (e : Nat) : Int32 := if ndV M e - ndM M e 24 0 e ≤ 0 then nI 0 else ndV M e - ndM M e 24 0 e
def csG (e : Nat) (A : Mem) : Mem := ndM A e
def csV (M : Mem) : Nat → Int32
  | 0 => nI 0
  | k + 1 => csV M k + itn csG k M 27 0 k * byV (itn csG k M) k
def csM (M : Mem) : Mem := itn csG (ix (M 3 0 3)) M
theorem Mm_cs0 {M M1 : Mem} {n : Nat} (h : Mm M M1) : Mm M (itn csG n M1) := Mm_itn (fun _ _ h => Mm_nd h) h n
theorem Mm_cs {M M1 : Mem} (h : Mm M M1) : Mm M (csM M1) := Mm_cs0 h
theorem DM_cs {M : Mem} (h : DM M) : DM (csM M) := h.mm (Mm_cs Mm.rf)
def ufH (e : Nat) (i : Nat) (A : Mem) : Mem := ms A 29 0 i (if fim A e i = true then nI e else -1)
set_option maxHeartbeats 4000000 in
set_option maxRecDepth 100000 in
theorem lp_gr3 {p : Program} {l : Launch} {e : Env} {s : State} {m : MethodId} {args : Array Value} {below : List Frame} {meth : Method} {c : Code} {w : Wo} {G : Lng} {y z u9 : Int32} {A : Mem} (hnt : l.stackTraces = false) (hw : WK w) (X : Cx p l (rmv 1 0 0) s m args meth c cX3_greatest 6 yX3_greatest.cls (some .int) [] w)  : ∀ (n k : Nat), k + n = 4 → VE p l e (rmv 1 0 0) s m args below meth c (0) (0) (QV w (okO (some (.int (mxc A 4))) (A) G) below args s 0 0) 6 w 109 [some (.ref (w.1 (3, 0))), some (.int y), some (.int z), some (.int u9), some (.int (mxc A k)), some (.int (nI k))] [] (ev w (A) (G)) := by
  intro n
  induction n with
  | zero =>
    intro k hk
    refine r_iload X dX3_greatest_109 rfl ?_
    refine r_iconst X dX3_greatest_111 (v := nI 4) (by decide) ?_
    first | with_reducible refine r_icmpn_ge X dX3_greatest_112 (tgt := 142) (by decide) (by omega) (by omega) (fun h1 => ?_) (fun h1 => ?_) | refine r_icmp_ge X dX3_greatest_112 (tgt := 142) (by decide) (fun h1 => ?_) (fun h1 => ?_)
    · refine r_iload X dX3_greatest_142 rfl ?_
      refine r_iret X dX3_greatest_144 (by first | decide | (simp only [rmv]; omega)) (by first | decide | (simp only [rmv]; omega)) ?_
      first | with_reducible rfl | (rw [show k = 4 by omega]; done) | contradiction | with_reducible assumption
    · exact absurd h1 (by omega)
  | succ n ih =>
    intro k hk
    refine r_iload X dX3_greatest_109 rfl ?_
    refine r_iconst X dX3_greatest_111 (v := nI 4) (by decide) ?_
    first | with_reducible refine r_icmpn_ge X dX3_greatest_112 (tgt := 142) (by decide) (by omega) (by omega) (fun h1 => ?_) (fun h1 => ?_) | refine r_icmp_ge X dX3_greatest_112 (tgt := 142) (by decide) (fun h1 => ?_) (fun h1 => ?_)
    · exact absurd h1 (by omega)
    · refine r_aload_n X dX3_greatest_115 (i := 0) rfl rfl ?_
      refine r_get X kc3 (j := 27) (hw.2 _ _ (by first | decide | (simp [cnt] <;> omega))) ev3 (by decide) rfl fl_X3_75 dX3_greatest_116 ?_
      refine r_iload X dX3_greatest_119 rfl ?_
      refine r_iald X (hw.2 _ _ (by first | decide | (simp [cnt] <;> omega))) (evA (by decide) (by decide)) (by first | with_reducible rfl | with_reducible assumption | (rw [pk_mul, nI_add])) (by first | with_reducible assumption | (simp [alen] <;> omega)) (by decide) dX3_greatest_121 ?_
      refine r_iload X dX3_greatest_122 rfl ?_
      first | with_reducible refine r_icmpn_le X dX3_greatest_124 (tgt := 136) (by decide) (by omega) (by omega) (fun h2 => ?_) (fun h2 => ?_) | refine r_icmp_le X dX3_greatest_124 (tgt := 136) (by decide) (fun h2 => ?_) (fun h2 => ?_)
      · first | with_reducible refine r_iincn X dX3_greatest_136 rfl (by decide) rfl ?_ | refine r_iinc1 X dX3_greatest_136 rfl (by decide) rfl ?_
        refine r_goto X dX3_greatest_139 (tgt := 109) (by decide) ?_
        have q9 := ih (k + 1) (by omega)
        simp only [mxc, h1, h2, Bool.false_eq_true, if_false, if_true] at q9
        exact q9
      · refine r_aload_n X dX3_greatest_127 (i := 0) rfl rfl ?_
        refine r_get X kc3 (j := 27) (hw.2 _ _ (by first | decide | (simp [cnt] <;> omega))) ev3 (by decide) rfl fl_X3_75 dX3_greatest_128 ?_
        refine r_iload X dX3_greatest_131 rfl ?_
        refine r_iald X (hw.2 _ _ (by first | decide | (simp [cnt] <;> omega))) (evA (by decide) (by decide)) (by first | with_reducible rfl | with_reducible assumption | (rw [pk_mul, nI_add])) (by first | with_reducible assumption | (simp [alen] <;> omega)) (by decide) dX3_greatest_133 ?_
        refine r_istore X dX3_greatest_134 (by decide) rfl ?_
        first | with_reducible refine r_iincn X dX3_greatest_136 rfl (by decide) rfl ?_ | refine r_iinc1 X dX3_greatest_136 rfl (by decide) rfl ?_
        refine r_goto X dX3_greatest_139 (tgt := 109) (by decide) ?_
        have q9 := ih (k + 1) (by omega)
        simp only [mxc, h1, h2, Bool.false_eq_true, if_false, if_true] at q9
        exact q9

set_option maxHeartbeats 4000000 in
set_option maxRecDepth 100000 in
theorem lp_gr2 {p : Program} {l : Launch} {e : Env} {s : State} {m : MethodId} {args : Array Value} {below : List Frame} {meth : Method} {c : Code} {w : Wo} {M : Mem} {G : Lng} {y z u9 : Int32} (hnt : l.stackTraces = false) (hw : WK w) (X : Cx p l (rmv 1 0 0) s m args meth c cX3_greatest 6 yX3_greatest.cls (some .int) [] w) (hD : DM M) : ∀ (n k : Nat) (M1 : Mem), k + n = ix (M 3 0 1) → M1 = itn (gaG y z u9) k (itn zcG 4 M) → DM M1 → M1 3 0 1 = M 3 0 1 → VE p l e (rmv 1 0 0) s m args below meth c (0) (0) (QV w (okO (some (.int (mxc (grM M y z u9) 4))) (grM M y z u9) G) below args s 0 0) 6 w 26 [some (.ref (w.1 (3, 0))), some (.int y), some (.int z), some (.int u9), some (.int (nI k)), none] [] (ev w (M1) (G)) := by
  intro n
  induction n with
  | zero =>
    intro k M1 hk hM hD1 hE
    have h6 := hD.1.2
    refine r_iload X dX3_greatest_26 rfl ?_
    refine r_aload_n X dX3_greatest_28 (i := 0) rfl rfl ?_
    refine r_get X kc3 (j := 1) (hw.2 _ _ (by first | decide | (simp [cnt] <;> omega))) ev3 (by decide) rfl fl_X3_100 dX3_greatest_29 ?_
    refine r_icmpr_ge X dX3_greatest_32 (tgt := 103) (by decide) (by with_reducible rfl) (hE.trans hD.1.1) (by omega) (by omega) (fun h1 => ?_) (fun h1 => ?_)
    · refine r_iconst X dX3_greatest_103 (v := nI 0) (by decide) ?_
      refine r_istore X dX3_greatest_104 (by decide) rfl ?_
      refine r_iconst X dX3_greatest_106 (v := nI 0) (by decide) ?_
      refine r_istore X dX3_greatest_107 (by decide) rfl ?_
      have hkk : k = ix (M 3 0 1) := by omega
      have hA : M1 = grM M y z u9 := by rw [hM, hkk]; rfl
      rw [hA]
      exact lp_gr3 hnt hw X 4 0 rfl
    · exact absurd h1 (by omega)
  | succ n ih =>
    intro k M1 hk hM hD1 hE
    have h6 := hD.1.2
    refine r_iload X dX3_greatest_26 rfl ?_
    refine r_aload_n X dX3_greatest_28 (i := 0) rfl rfl ?_
    refine r_get X kc3 (j := 1) (hw.2 _ _ (by first | decide | (simp [cnt] <;> omega))) ev3 (by decide) rfl fl_X3_100 dX3_greatest_29 ?_
    refine r_icmpr_ge X dX3_greatest_32 (tgt := 103) (by decide) (by with_reducible rfl) (hE.trans hD.1.1) (by omega) (by omega) (fun h1 => ?_) (fun h1 => ?_)
    · exact absurd h1 (by omega)
    · refine r_aload_n X dX3_greatest_35 (i := 0) rfl rfl ?_
      refine r_get X kc3 (j := 13) (hw.2 _ _ (by first | decide | (simp [cnt] <;> omega))) ev3 (by decide) rfl fl_X3_31 dX3_greatest_36 ?_
      refine r_iload X dX3_greatest_39 rfl ?_
      refine r_zald X (hw.2 _ _ (by first | decide | (simp [cnt] <;> omega))) (evA (by decide) (by decide)) (by first | with_reducible rfl | with_reducible assumption | (rw [pk_mul, nI_add])) (by first | with_reducible assumption | (simp [alen] <;> omega)) (by decide) dX3_greatest_41 ?_
      first | with_reducible refine r_ifb_ne X dX3_greatest_42 (tgt := 97) (by decide) (fun h2 => ?_) (fun h2 => ?_) | refine r_if_ne X dX3_greatest_42 (tgt := 97) (by decide) (fun h2 => ?_) (fun h2 => ?_)
      · first | with_reducible refine r_iincn X dX3_greatest_97 rfl (by decide) rfl ?_ | refine r_iinc1 X dX3_greatest_97 rfl (by decide) rfl ?_
        refine r_goto X dX3_greatest_100 (tgt := 26) (by decide) ?_
        exact ih (k + 1) _ (by omega) (by rw [itn, ← hM]; simp [gaG, h1, h2]) (by first | with_reducible assumption | with_reducible rfl | omega | (with_reducible (repeat (first | assumption | refine DM_t ?_ | refine DM_ms rfl ?_ | refine DM_gr ?_ | refine DM_nd ?_ | refine DM_tk ?_ | refine DM_pt ?_ | refine DM_bg ?_ | refine DM_cs ?_)); done)) (by first | exact hE | (rw [ms_o (by decide)]; exact hE))
      · refine r_aload_n X dX3_greatest_45 (i := 0) rfl rfl ?_
        refine r_get X kc3 (j := 25) (hw.2 _ _ (by first | decide | (simp [cnt] <;> omega))) ev3 (by decide) rfl fl_X3_69 dX3_greatest_46 ?_
        refine r_iload X dX3_greatest_49 rfl ?_
        refine r_iald X (hw.2 _ _ (by first | decide | (simp [cnt] <;> omega))) (evA (by decide) (by decide)) (by first | with_reducible rfl | with_reducible assumption | (rw [pk_mul, nI_add])) (by first | with_reducible assumption | (simp [alen] <;> omega)) (by decide) dX3_greatest_51 ?_
        refine r_iload_n X dX3_greatest_52 (i := 1) rfl rfl ?_
        first | with_reducible refine r_icmpn_ne X dX3_greatest_53 (tgt := 97) (by decide) (by omega) (by omega) (fun h3 => ?_) (fun h3 => ?_) | refine r_icmp_ne X dX3_greatest_53 (tgt := 97) (by decide) (fun h3 => ?_) (fun h3 => ?_)
        · first | with_reducible refine r_iincn X dX3_greatest_97 rfl (by decide) rfl ?_ | refine r_iinc1 X dX3_greatest_97 rfl (by decide) rfl ?_
          refine r_goto X dX3_greatest_100 (tgt := 26) (by decide) ?_
          exact ih (k + 1) _ (by omega) (by rw [itn, ← hM]; simp [gaG, h1, h2, h3]) (by first | with_reducible assumption | with_reducible rfl | omega | (with_reducible (repeat (first | assumption | refine DM_t ?_ | refine DM_ms rfl ?_ | refine DM_gr ?_ | refine DM_nd ?_ | refine DM_tk ?_ | refine DM_pt ?_ | refine DM_bg ?_ | refine DM_cs ?_)); done)) (by first | exact hE | (rw [ms_o (by decide)]; exact hE))
        · refine r_iload_n X dX3_greatest_56 (i := 3) rfl rfl ?_
          first | with_reducible refine r_ifb_eq X dX3_greatest_57 (tgt := 70) (by decide) (fun h4 => ?_) (fun h4 => ?_) | refine r_if_eq X dX3_greatest_57 (tgt := 70) (by decide) (fun h4 => ?_) (fun h4 => ?_)
          · refine r_aload_n X dX3_greatest_70 (i := 0) rfl rfl ?_
            refine r_get X kc3 (j := 9) (hw.2 _ _ (by first | decide | (simp [cnt] <;> omega))) ev3 (by decide) rfl fl_X3_19 dX3_greatest_71 ?_
            refine r_iload X dX3_greatest_74 rfl ?_
            refine r_iald X (hw.2 _ _ (by first | decide | (simp [cnt] <;> omega))) (evA (by decide) (by decide)) (by first | with_reducible rfl | with_reducible assumption | (rw [pk_mul, nI_add])) (by first | with_reducible assumption | (simp [alen] <;> omega)) (by decide) dX3_greatest_76 ?_
            refine r_iload_n X dX3_greatest_77 (i := 2) rfl rfl ?_
            first | with_reducible refine r_icmpn_ne X dX3_greatest_78 (tgt := 97) (by decide) (by omega) (by omega) (fun h5 => ?_) (fun h5 => ?_) | refine r_icmp_ne X dX3_greatest_78 (tgt := 97) (by decide) (fun h5 => ?_) (fun h5 => ?_)
            · first | with_reducible refine r_iincn X dX3_greatest_97 rfl (by decide) rfl ?_ | refine r_iinc1 X dX3_greatest_97 rfl (by decide) rfl ?_
              refine r_goto X dX3_greatest_100 (tgt := 26) (by decide) ?_
              exact ih (k + 1) _ (by omega) (by rw [itn, ← hM]; simp [gaG, h1, h2, h3, h4, h5]) (by first | with_reducible assumption | with_reducible rfl | omega | (with_reducible (repeat (first | assumption | refine DM_t ?_ | refine DM_ms rfl ?_ | refine DM_gr ?_ | refine DM_nd ?_ | refine DM_tk ?_ | refine DM_pt ?_ | refine DM_bg ?_ | refine DM_cs ?_)); done)) (by first | exact hE | (rw [ms_o (by decide)]; exact hE))
            · refine r_aload_n X dX3_greatest_81 (i := 0) rfl rfl ?_
              refine r_get X kc3 (j := 27) (hw.2 _ _ (by first | decide | (simp [cnt] <;> omega))) ev3 (by decide) rfl fl_X3_75 dX3_greatest_82 ?_
              refine r_aload_n X dX3_greatest_85 (i := 0) rfl rfl ?_
              refine r_get X kc3 (j := 6) (hw.2 _ _ (by first | decide | (simp [cnt] <;> omega))) ev3 (by decide) rfl fl_X3_7 dX3_greatest_86 ?_
              refine r_iload X dX3_greatest_89 rfl ?_
              refine r_iald X (hw.2 _ _ (by first | decide | (simp [cnt] <;> omega))) (evA (by decide) (by decide)) (by first | with_reducible rfl | with_reducible assumption | (rw [pk_mul, nI_add])) (by first | with_reducible assumption | (simp [alen] <;> omega)) (by decide) dX3_greatest_91 ?_
              have hp1 := (hD1.2.2.2 k (by omega)).1
              have hp2 := (hD1.2.2.2 k (by omega)).2
              refine r_dup2 X dX3_greatest_92 rfl rfl ?_
              refine r_iald X (hw.2 _ _ (by first | decide | (simp [cnt] <;> omega))) (evA (by decide) (by decide)) (by first | with_reducible rfl | with_reducible assumption | (rw [pk_mul, nI_add])) (by first | with_reducible assumption | (simp [alen] <;> omega)) (by decide) dX3_greatest_93 ?_
              refine r_iconst X dX3_greatest_94 (v := nI 1) (by decide) ?_
              refine r_iadd X dX3_greatest_95 ?_
              refine r_iast X (hw.2 _ _ (by first | decide | (simp [cnt] <;> omega))) (evA (by decide) (by decide)) (by first | with_reducible rfl | with_reducible assumption | (rw [pk_mul, nI_add])) (by first | with_reducible assumption | (simp [alen] <;> omega)) (by decide) rfl dX3_greatest_96 (esA (by decide) (by decide)) ?_
              first | with_reducible refine r_iincn X dX3_greatest_97 rfl (by decide) rfl ?_ | refine r_iinc1 X dX3_greatest_97 rfl (by decide) rfl ?_
              refine r_goto X dX3_greatest_100 (tgt := 26) (by decide) ?_
              exact ih (k + 1) _ (by omega) (by rw [itn, ← hM]; simp [gaG, h1, h2, h3, h4, h5]) (by first | with_reducible assumption | with_reducible rfl | omega | (with_reducible (repeat (first | assumption | refine DM_t ?_ | refine DM_ms rfl ?_ | refine DM_gr ?_ | refine DM_nd ?_ | refine DM_tk ?_ | refine DM_pt ?_ | refine DM_bg ?_ | refine DM_cs ?_)); done)) (by first | exact hE | (rw [ms_o (by decide)]; exact hE))
          · refine r_aload_n X dX3_greatest_60 (i := 0) rfl rfl ?_
            refine r_get X kc3 (j := 10) (hw.2 _ _ (by first | decide | (simp [cnt] <;> omega))) ev3 (by decide) rfl fl_X3_22 dX3_greatest_61 ?_
            refine r_iload X dX3_greatest_64 rfl ?_
            refine r_iald X (hw.2 _ _ (by first | decide | (simp [cnt] <;> omega))) (evA (by decide) (by decide)) (by first | with_reducible rfl | with_reducible assumption | (rw [pk_mul, nI_add])) (by first | with_reducible assumption | (simp [alen] <;> omega)) (by decide) dX3_greatest_66 ?_
            refine r_goto X dX3_greatest_67 (tgt := 77) (by decide) ?_
            refine r_iload_n X dX3_greatest_77 (i := 2) rfl rfl ?_
            first | with_reducible refine r_icmpn_ne X dX3_greatest_78 (tgt := 97) (by decide) (by omega) (by omega) (fun h6 => ?_) (fun h6 => ?_) | refine r_icmp_ne X dX3_greatest_78 (tgt := 97) (by decide) (fun h6 => ?_) (fun h6 => ?_)
            · first | with_reducible refine r_iincn X dX3_greatest_97 rfl (by decide) rfl ?_ | refine r_iinc1 X dX3_greatest_97 rfl (by decide) rfl ?_
              refine r_goto X dX3_greatest_100 (tgt := 26) (by decide) ?_
              exact ih (k + 1) _ (by omega) (by rw [itn, ← hM]; simp [gaG, h1, h2, h3, h4, h6]) (by first | with_reducible assumption | with_reducible rfl | omega | (with_reducible (repeat (first | assumption | refine DM_t ?_ | refine DM_ms rfl ?_ | refine DM_gr ?_ | refine DM_nd ?_ | refine DM_tk ?_ | refine DM_pt ?_ | refine DM_bg ?_ | refine DM_cs ?_)); done)) (by first | exact hE | (rw [ms_o (by decide)]; exact hE))
            · refine r_aload_n X dX3_greatest_81 (i := 0) rfl rfl ?_
              refine r_get X kc3 (j := 27) (hw.2 _ _ (by first | decide | (simp [cnt] <;> omega))) ev3 (by decide) rfl fl_X3_75 dX3_greatest_82 ?_
              refine r_aload_n X dX3_greatest_85 (i := 0) rfl rfl ?_
              refine r_get X kc3 (j := 6) (hw.2 _ _ (by first | decide | (simp [cnt] <;> omega))) ev3 (by decide) rfl fl_X3_7 dX3_greatest_86 ?_
              refine r_iload X dX3_greatest_89 rfl ?_
              refine r_iald X (hw.2 _ _ (by first | decide | (simp [cnt] <;> omega))) (evA (by decide) (by decide)) (by first | with_reducible rfl | with_reducible assumption | (rw [pk_mul, nI_add])) (by first | with_reducible assumption | (simp [alen] <;> omega)) (by decide) dX3_greatest_91 ?_
              have hp1 := (hD1.2.2.2 k (by omega)).1
              have hp2 := (hD1.2.2.2 k (by omega)).2
              refine r_dup2 X dX3_greatest_92 rfl rfl ?_
              refine r_iald X (hw.2 _ _ (by first | decide | (simp [cnt] <;> omega))) (evA (by decide) (by decide)) (by first | with_reducible rfl | with_reducible assumption | (rw [pk_mul, nI_add])) (by first | with_reducible assumption | (simp [alen] <;> omega)) (by decide) dX3_greatest_93 ?_
              refine r_iconst X dX3_greatest_94 (v := nI 1) (by decide) ?_
              refine r_iadd X dX3_greatest_95 ?_
              refine r_iast X (hw.2 _ _ (by first | decide | (simp [cnt] <;> omega))) (evA (by decide) (by decide)) (by first | with_reducible rfl | with_reducible assumption | (rw [pk_mul, nI_add])) (by first | with_reducible assumption | (simp [alen] <;> omega)) (by decide) rfl dX3_greatest_96 (esA (by decide) (by decide)) ?_
              first | with_reducible refine r_iincn X dX3_greatest_97 rfl (by decide) rfl ?_ | refine r_iinc1 X dX3_greatest_97 rfl (by decide) rfl ?_
              refine r_goto X dX3_greatest_100 (tgt := 26) (by decide) ?_
              exact ih (k + 1) _ (by omega) (by rw [itn, ← hM]; simp [gaG, h1, h2, h3, h4, h6]) (by first | with_reducible assumption | with_reducible rfl | omega | (with_reducible (repeat (first | assumption | refine DM_t ?_ | refine DM_ms rfl ?_ | refine DM_gr ?_ | refine DM_nd ?_ | refine DM_tk ?_ | refine DM_pt ?_ | refine DM_bg ?_ | refine DM_cs ?_)); done)) (by first | exact hE | (rw [ms_o (by decide)]; exact hE))

set_option maxHeartbeats 4000000 in
set_option maxRecDepth 100000 in
theorem lp_gr1 {p : Program} {l : Launch} {e : Env} {s : State} {m : MethodId} {args : Array Value} {below : List Frame} {meth : Method} {c : Code} {w : Wo} {M : Mem} {G : Lng} {y z u9 : Int32} (hnt : l.stackTraces = false) (hw : WK w) (X : Cx p l (rmv 1 0 0) s m args meth c cX3_greatest 6 yX3_greatest.cls (some .int) [] w) (hD : DM M) : ∀ (n k : Nat) (M1 : Mem), k + n = 4 → M1 = itn zcG k M → VE p l e (rmv 1 0 0) s m args below meth c (0) (0) (QV w (okO (some (.int (mxc (grM M y z u9) 4))) (grM M y z u9) G) below args s 0 0) 6 w 3 [some (.ref (w.1 (3, 0))), some (.int y), some (.int z), some (.int u9), some (.int (nI k)), none] [] (ev w (M1) (G)) := by
  intro n
  induction n with
  | zero =>
    intro k M1 hk hM
    refine r_iload X dX3_greatest_3 rfl ?_
    refine r_iconst X dX3_greatest_5 (v := nI 4) (by decide) ?_
    first | with_reducible refine r_icmpn_ge X dX3_greatest_6 (tgt := 23) (by decide) (by omega) (by omega) (fun h1 => ?_) (fun h1 => ?_) | refine r_icmp_ge X dX3_greatest_6 (tgt := 23) (by decide) (fun h1 => ?_) (fun h1 => ?_)
    · refine r_iconst X dX3_greatest_23 (v := nI 0) (by decide) ?_
      refine r_istore X dX3_greatest_24 (by decide) rfl ?_
      have hk4 : k = 4 := by omega
      subst hk4
      have hMm : Mm M M1 := by rw [hM]; exact Mm_itn (fun _ _ h => Mm_ms h rfl) Mm.rf 4
      exact lp_gr2 hnt hw X hD (ix (M 3 0 1)) 0 M1 (by omega) hM (hD.mm hMm) (hMm 3 0 1 rfl)
    · exact absurd h1 (by omega)
  | succ n ih =>
    intro k M1 hk hM
    refine r_iload X dX3_greatest_3 rfl ?_
    refine r_iconst X dX3_greatest_5 (v := nI 4) (by decide) ?_
    first | with_reducible refine r_icmpn_ge X dX3_greatest_6 (tgt := 23) (by decide) (by omega) (by omega) (fun h1 => ?_) (fun h1 => ?_) | refine r_icmp_ge X dX3_greatest_6 (tgt := 23) (by decide) (fun h1 => ?_) (fun h1 => ?_)
    · exact absurd h1 (by omega)
    · refine r_aload_n X dX3_greatest_9 (i := 0) rfl rfl ?_
      refine r_get X kc3 (j := 27) (hw.2 _ _ (by first | decide | (simp [cnt] <;> omega))) ev3 (by decide) rfl fl_X3_75 dX3_greatest_10 ?_
      refine r_iload X dX3_greatest_13 rfl ?_
      refine r_iconst X dX3_greatest_15 (v := nI 0) (by decide) ?_
      refine r_iast X (hw.2 _ _ (by first | decide | (simp [cnt] <;> omega))) (evA (by decide) (by decide)) (by first | with_reducible rfl | with_reducible assumption | (rw [pk_mul, nI_add])) (by first | with_reducible assumption | (simp [alen] <;> omega)) (by decide) rfl dX3_greatest_16 (esA (by decide) (by decide)) ?_
      first | with_reducible refine r_iincn X dX3_greatest_17 rfl (by decide) rfl ?_ | refine r_iinc1 X dX3_greatest_17 rfl (by decide) rfl ?_
      refine r_goto X dX3_greatest_20 (tgt := 3) (by decide) ?_
      exact ih (k + 1) _ (by omega) (by rw [hM]; rfl)

set_option maxHeartbeats 4000000 in
set_option maxRecDepth 100000 in
theorem c_X3_greatest {l : Launch} {w : Wo} {M : Mem} {G : Lng} {y z u9 : Int32} (hnt : l.stackTraces = false) (hw : WK w) (hD : DM M) : CT l yX3_greatest [Cond.code yX3_greatest cX3_greatest 6 (some .int)] 1 0 0 w [.ref (w.1 (3, 0)), .int y, .int z, .int u9] M G (okO (some (.int (mxc (grM M y z u9) 4))) (grM M y z u9) G) := by
  refine CT_of hnt hw.1 mw_X3_greatest (by simp [Value.category]) (Nat.le_of_ble_eq_true rfl) (fun p e s m args below meth c X => ?_)
  refine r_iconst X dX3_greatest_0 (v := nI 0) (by decide) ?_
  refine r_istore X dX3_greatest_1 (by decide) rfl ?_
  exact lp_gr1 hnt hw X hD 4 0 M rfl (itn0 _ _).symm

set_option maxHeartbeats 4000000 in
set_option maxRecDepth 100000 in
theorem lp_ndc {p : Program} {l : Launch} {e : Env} {s : State} {m : MethodId} {args : Array Value} {below : List Frame} {meth : Method} {c : Code} {w : Wo} {M : Mem} {G : Lng} {e9 : Nat} (hnt : l.stackTraces = false) (hw : WK w) (X : Cx p l (rmv 2 0 0) s m args meth c cX3_needs 5 yX3_needs.cls (some .int) [] w) (hD : DM M) (he : e9 < 5) (hmet : M 28 0 e9 = nI 99) : ∀ (n k : Nat), k + n = ix (M 3 0 1) → VE p l e (rmv 2 0 0) s m args below meth c (0) (0) (QV w (okO (some (.int (ndV M e9))) (ndM M e9) G) below args s 0 0) 5 w 15 [some (.ref (w.1 (3, 0))), some (.int (nI e9)), some (.int (nsC M e9 k)), some (.int (nI k)), none] [] (ev w (M) (G)) := by
  intro n
  induction n with
  | zero =>
    intro k hk
    have h6 := hD.1.2
    refine r_iload_n X dX3_needs_15 (i := 3) rfl rfl ?_
    refine r_aload_n X dX3_needs_16 (i := 0) rfl rfl ?_
    refine r_get X kc3 (j := 1) (hw.2 _ _ (by first | decide | (simp [cnt] <;> omega))) ev3 (by decide) rfl fl_X3_100 dX3_needs_17 ?_
    refine r_icmpr_ge X dX3_needs_20 (tgt := 81) (by decide) (by with_reducible rfl) (hD.1.1) (by omega) (by omega) (fun h1 => ?_) (fun h1 => ?_)
    · refine r_iload_n X dX3_needs_81 (i := 2) rfl rfl ?_
      refine r_iret X dX3_needs_82 (by first | decide | (simp only [rmv]; omega)) (by first | decide | (simp only [rmv]; omega)) ?_
      first | with_reducible rfl | (((have hkk : k = ix (M 3 0 1) := by omega); rw [hkk]; simp [ndV, ndM, hmet]); done) | contradiction | with_reducible assumption
    · exact absurd h1 (by omega)
  | succ n ih =>
    intro k hk
    have h6 := hD.1.2
    refine r_iload_n X dX3_needs_15 (i := 3) rfl rfl ?_
    refine r_aload_n X dX3_needs_16 (i := 0) rfl rfl ?_
    refine r_get X kc3 (j := 1) (hw.2 _ _ (by first | decide | (simp [cnt] <;> omega))) ev3 (by decide) rfl fl_X3_100 dX3_needs_17 ?_
    refine r_icmpr_ge X dX3_needs_20 (tgt := 81) (by decide) (by with_reducible rfl) (hD.1.1) (by omega) (by omega) (fun h1 => ?_) (fun h1 => ?_)
    · exact absurd h1 (by omega)
    · refine r_aload_n X dX3_needs_23 (i := 0) rfl rfl ?_
      refine r_get X kc3 (j := 13) (hw.2 _ _ (by first | decide | (simp [cnt] <;> omega))) ev3 (by decide) rfl fl_X3_31 dX3_needs_24 ?_
      refine r_iload_n X dX3_needs_27 (i := 3) rfl rfl ?_
      refine r_zald X (hw.2 _ _ (by first | decide | (simp [cnt] <;> omega))) (evA (by decide) (by decide)) (by first | with_reducible rfl | with_reducible assumption | (rw [pk_mul, nI_add])) (by first | with_reducible assumption | (simp [alen] <;> omega)) (by decide) dX3_needs_28 ?_
      first | with_reducible refine r_ifb_ne X dX3_needs_29 (tgt := 75) (by decide) (fun h2 => ?_) (fun h2 => ?_) | refine r_if_ne X dX3_needs_29 (tgt := 75) (by decide) (fun h2 => ?_) (fun h2 => ?_)
      · first | with_reducible refine r_iincn X dX3_needs_75 rfl (by decide) rfl ?_ | refine r_iinc1 X dX3_needs_75 rfl (by decide) rfl ?_
        refine r_goto X dX3_needs_78 (tgt := 15) (by decide) ?_
        have q9 := ih (k + 1) (by omega)
        simp only [nsC, h1, h2, and_self, and_true, true_and, and_false, false_and, if_true, if_false] at q9
        exact q9
      · refine r_aload_n X dX3_needs_32 (i := 0) rfl rfl ?_
        refine r_get X kc3 (j := 25) (hw.2 _ _ (by first | decide | (simp [cnt] <;> omega))) ev3 (by decide) rfl fl_X3_69 dX3_needs_33 ?_
        refine r_iload_n X dX3_needs_36 (i := 3) rfl rfl ?_
        refine r_iald X (hw.2 _ _ (by first | decide | (simp [cnt] <;> omega))) (evA (by decide) (by decide)) (by first | with_reducible rfl | with_reducible assumption | (rw [pk_mul, nI_add])) (by first | with_reducible assumption | (simp [alen] <;> omega)) (by decide) dX3_needs_37 ?_
        refine r_iload_n X dX3_needs_38 (i := 1) rfl rfl ?_
        first | with_reducible refine r_icmpn_ne X dX3_needs_39 (tgt := 75) (by decide) (by omega) (by omega) (fun h3 => ?_) (fun h3 => ?_) | refine r_icmp_ne X dX3_needs_39 (tgt := 75) (by decide) (fun h3 => ?_) (fun h3 => ?_)
        · first | with_reducible refine r_iincn X dX3_needs_75 rfl (by decide) rfl ?_ | refine r_iinc1 X dX3_needs_75 rfl (by decide) rfl ?_
          refine r_goto X dX3_needs_78 (tgt := 15) (by decide) ?_
          have q9 := ih (k + 1) (by omega)
          simp only [nsC, h1, h2, h3, and_self, and_true, true_and, and_false, false_and, if_true, if_false] at q9
          exact q9
        · refine r_iload_n X dX3_needs_42 (i := 2) rfl rfl ?_
          refine r_aload_n X dX3_needs_43 (i := 0) rfl rfl ?_
          refine r_get X kc3 (j := 11) (hw.2 _ _ (by first | decide | (simp [cnt] <;> omega))) ev3 (by decide) rfl fl_X3_25 dX3_needs_44 ?_
          refine r_iload_n X dX3_needs_47 (i := 3) rfl rfl ?_
          refine r_iald X (hw.2 _ _ (by first | decide | (simp [cnt] <;> omega))) (evA (by decide) (by decide)) (by first | with_reducible rfl | with_reducible assumption | (rw [pk_mul, nI_add])) (by first | with_reducible assumption | (simp [alen] <;> omega)) (by decide) dX3_needs_48 ?_
          refine r_aload_n X dX3_needs_49 (i := 0) rfl rfl ?_
          refine r_get X kc3 (j := 22) (hw.2 _ _ (by first | decide | (simp [cnt] <;> omega))) ev3 (by decide) rfl fl_X3_59 dX3_needs_50 ?_
          refine r_iload_n X dX3_needs_53 (i := 1) rfl rfl ?_
          refine r_iald X (hw.2 _ _ (by first | decide | (simp [cnt] <;> omega))) (evA (by decide) (by decide)) (by first | with_reducible rfl | with_reducible assumption | (rw [pk_mul, nI_add])) (by first | with_reducible assumption | (simp [alen] <;> omega)) (by decide) dX3_needs_54 ?_
          first | with_reducible refine r_icmpn_le X dX3_needs_55 (tgt := 67) (by decide) (by omega) (by omega) (fun h4 => ?_) (fun h4 => ?_) | refine r_icmp_le X dX3_needs_55 (tgt := 67) (by decide) (fun h4 => ?_) (fun h4 => ?_)
          · refine r_aload_n X dX3_needs_67 (i := 0) rfl rfl ?_
            refine r_get X kc3 (j := 22) (hw.2 _ _ (by first | decide | (simp [cnt] <;> omega))) ev3 (by decide) rfl fl_X3_59 dX3_needs_68 ?_
            refine r_iload_n X dX3_needs_71 (i := 1) rfl rfl ?_
            refine r_iald X (hw.2 _ _ (by first | decide | (simp [cnt] <;> omega))) (evA (by decide) (by decide)) (by first | with_reducible rfl | with_reducible assumption | (rw [pk_mul, nI_add])) (by first | with_reducible assumption | (simp [alen] <;> omega)) (by decide) dX3_needs_72 ?_
            refine r_iadd X dX3_needs_73 ?_
            refine r_istore_n X dX3_needs_74 (i := 2) rfl (by decide) rfl ?_
            first | with_reducible refine r_iincn X dX3_needs_75 rfl (by decide) rfl ?_ | refine r_iinc1 X dX3_needs_75 rfl (by decide) rfl ?_
            refine r_goto X dX3_needs_78 (tgt := 15) (by decide) ?_
            have q9 := ih (k + 1) (by omega)
            simp only [nsC, h1, h2, h3, h4, and_self, and_true, true_and, and_false, false_and, if_true, if_false] at q9
            exact q9
          · refine r_aload_n X dX3_needs_58 (i := 0) rfl rfl ?_
            refine r_get X kc3 (j := 11) (hw.2 _ _ (by first | decide | (simp [cnt] <;> omega))) ev3 (by decide) rfl fl_X3_25 dX3_needs_59 ?_
            refine r_iload_n X dX3_needs_62 (i := 3) rfl rfl ?_
            refine r_iald X (hw.2 _ _ (by first | decide | (simp [cnt] <;> omega))) (evA (by decide) (by decide)) (by first | with_reducible rfl | with_reducible assumption | (rw [pk_mul, nI_add])) (by first | with_reducible assumption | (simp [alen] <;> omega)) (by decide) dX3_needs_63 ?_
            refine r_goto X dX3_needs_64 (tgt := 73) (by decide) ?_
            refine r_iadd X dX3_needs_73 ?_
            refine r_istore_n X dX3_needs_74 (i := 2) rfl (by decide) rfl ?_
            first | with_reducible refine r_iincn X dX3_needs_75 rfl (by decide) rfl ?_ | refine r_iinc1 X dX3_needs_75 rfl (by decide) rfl ?_
            refine r_goto X dX3_needs_78 (tgt := 15) (by decide) ?_
            have q9 := ih (k + 1) (by omega)
            simp only [nsC, h1, h2, h3, h4, and_self, and_true, true_and, and_false, false_and, if_true, if_false] at q9
            exact q9

set_option maxHeartbeats 4000000 in
set_option maxRecDepth 100000 in
theorem lp_nds {p : Program} {l : Launch} {e : Env} {s : State} {m : MethodId} {args : Array Value} {below : List Frame} {meth : Method} {c : Code} {w : Wo} {M : Mem} {G : Lng} {e9 : Nat} (hnt : l.stackTraces = false) (hw : WK w) (X : Cx p l (rmv 2 0 0) s m args meth c cX3_needs 5 yX3_needs.cls (some .int) [] w) (hD : DM M) (he : e9 < 5) (hmet : ¬ M 28 0 e9 = nI 99) : ∀ (n k : Nat) (M1 : Mem), k + n = 10 → M1 = itn (ndG e9) k M → DM M1 → VE p l e (rmv 2 0 0) s m args below meth c (0) (0) (QV w (okO (some (.int (ndV M e9))) (ndM M e9) G) below args s 0 0) 5 w 85 [some (.ref (w.1 (3, 0))), some (.int (nI e9)), some (.int (ndS M e9 k)), some (.int (nI k)), none] [] (ev w (M1) (G)) := by
  intro n
  induction n with
  | zero =>
    intro k M1 hk hM hD1
    refine r_iload_n X dX3_needs_85 (i := 3) rfl rfl ?_
    refine r_bipush X dX3_needs_86 (v := nI 10) (by decide) ?_
    first | with_reducible refine r_icmpn_ge X dX3_needs_88 (tgt := 155) (by decide) (by omega) (by omega) (fun h1 => ?_) (fun h1 => ?_) | refine r_icmp_ge X dX3_needs_88 (tgt := 155) (by decide) (fun h1 => ?_) (fun h1 => ?_)
    · refine r_iload_n X dX3_needs_155 (i := 2) rfl rfl ?_
      refine r_iret X dX3_needs_156 (by first | decide | (simp only [rmv]; omega)) (by first | decide | (simp only [rmv]; omega)) ?_
      first | with_reducible rfl | (((have hkk : k = 10 := by omega); subst hkk; rw [hM]; simp [ndV, ndM, hmet]); done) | contradiction | with_reducible assumption
    · exact absurd h1 (by omega)
  | succ n ih =>
    intro k M1 hk hM hD1
    refine r_iload_n X dX3_needs_85 (i := 3) rfl rfl ?_
    refine r_bipush X dX3_needs_86 (v := nI 10) (by decide) ?_
    first | with_reducible refine r_icmpn_ge X dX3_needs_88 (tgt := 155) (by decide) (by omega) (by omega) (fun h1 => ?_) (fun h1 => ?_) | refine r_icmp_ge X dX3_needs_88 (tgt := 155) (by decide) (fun h1 => ?_) (fun h1 => ?_)
    · exact absurd h1 (by omega)
    · refine r_aload_n X dX3_needs_91 (i := 0) rfl rfl ?_
      refine r_iload_n X dX3_needs_92 (i := 1) rfl rfl ?_
      refine r_iload_n X dX3_needs_93 (i := 3) rfl rfl ?_
      refine r_aload_n X dX3_needs_94 (i := 0) rfl rfl ?_
      refine r_get X kc3 (j := 24) (hw.2 _ _ (by first | decide | (simp [cnt] <;> omega))) ev3 (by decide) rfl fl_X3_65 dX3_needs_95 ?_
      refine r_iload_n X dX3_needs_98 (i := 1) rfl rfl ?_
      refine r_cald X (hw.2 _ _ (by first | decide | (simp [cnt] <;> omega))) (evA (by decide) (by decide)) (by first | with_reducible rfl | with_reducible assumption | (rw [pk_mul, nI_add])) (by first | with_reducible assumption | (simp [alen] <;> omega)) (by decide) dX3_needs_99 ?_
      refine r_bipush X dX3_needs_100 (v := nI 117) (by decide) ?_
      first | with_reducible refine r_icmpn_ne X dX3_needs_102 (tgt := 109) (by decide) (by omega) (by omega) (fun h2 => ?_) (fun h2 => ?_) | refine r_icmp_ne X dX3_needs_102 (tgt := 109) (by decide) (fun h2 => ?_) (fun h2 => ?_)
      · refine r_iconst X dX3_needs_109 (v := nI 0) (by decide) ?_
        refine r_callV X (c_X3_greatest hnt hw (by first | with_reducible assumption | with_reducible rfl | omega | (with_reducible (repeat (first | assumption | refine DM_t ?_ | refine DM_ms rfl ?_ | refine DM_gr ?_ | refine DM_nd ?_ | refine DM_tk ?_ | refine DM_pt ?_ | refine DM_bg ?_ | refine DM_cs ?_)); done))) mw_X3_greatest kc3 mi_X3_greatest (hw.2 _ _ (by first | decide | (simp [cnt] <;> omega))) ev3 ml_X3_122 rfl rfl (Nat.le_of_ble_eq_true rfl) (by first | decide | (simp only [rmv]; omega)) (by first | decide | (simp only [rmv]; omega)) (by first | decide | (simp only [rmv]; omega)) (by first | decide | (simp only [rmv]; omega)) dX3_needs_110 (ko1 ?_)
        refine r_istore X dX3_needs_113 (by decide) rfl ?_
        refine r_iload_n X dX3_needs_115 (i := 2) rfl rfl ?_
        refine r_aload_n X dX3_needs_116 (i := 0) rfl rfl ?_
        refine r_get X kc3 (j := 24) (hw.2 _ _ (by first | decide | (simp [cnt] <;> omega))) ev3 (by decide) rfl fl_X3_65 dX3_needs_117 ?_
        refine r_iload_n X dX3_needs_120 (i := 1) rfl rfl ?_
        refine r_cald X (hw.2 _ _ (by first | decide | (simp [cnt] <;> omega))) (evA (by decide) (by decide)) (by first | with_reducible rfl | with_reducible assumption | (rw [pk_mul, nI_add])) (by first | with_reducible assumption | (simp [alen] <;> omega)) (by decide) dX3_needs_121 ?_
        refine r_bipush X dX3_needs_122 (v := nI 117) (by decide) ?_
        first | with_reducible refine r_icmpn_ne X dX3_needs_124 (tgt := 145) (by decide) (by omega) (by omega) (fun h3 => ?_) (fun h3 => ?_) | refine r_icmp_ne X dX3_needs_124 (tgt := 145) (by decide) (fun h3 => ?_) (fun h3 => ?_)
        · refine r_iload X dX3_needs_145 rfl ?_
          refine r_iadd X dX3_needs_147 ?_
          refine r_istore_n X dX3_needs_148 (i := 2) rfl (by decide) rfl ?_
          first | with_reducible refine r_iincn X dX3_needs_149 rfl (by decide) rfl ?_ | refine r_iinc1 X dX3_needs_149 rfl (by decide) rfl ?_
          refine r_goto X dX3_needs_152 (tgt := 85) (by decide) ?_
          refine r_lv (lv2 := [some (.ref (w.1 (3, 0))), some (.int (nI e9)), some (.int (ndS M e9 (k + 1))), some (.int (nI (k + 1))), none]) (lvs_c (Or.inr rfl) (lvs_c (Or.inr rfl) (lvs_c (Or.inr (by simp only [ndS, itn, ← hM, ndG, vf, h1, h2, h3, and_self, and_true, true_and, and_false, false_and, if_true, if_false, not_true, not_false_eq_true])) (lvs_c (Or.inr rfl) (lvs_c (Or.inl rfl) lvs_n))))) ?_
          exact ih (k + 1) _ (by omega) (by rw [itn, ← hM]; simp [ndG, h1, h2, h3]) (by first | with_reducible assumption | with_reducible rfl | omega | (with_reducible (repeat (first | assumption | refine DM_t ?_ | refine DM_ms rfl ?_ | refine DM_gr ?_ | refine DM_nd ?_ | refine DM_tk ?_ | refine DM_pt ?_ | refine DM_bg ?_ | refine DM_cs ?_)); done))
        · refine r_aload_n X dX3_needs_127 (i := 0) rfl rfl ?_
          refine r_get X kc3 (j := 16) (hw.2 _ _ (by first | decide | (simp [cnt] <;> omega))) ev3 (by decide) rfl fl_X3_41 dX3_needs_128 ?_
          refine r_iload_n X dX3_needs_131 (i := 1) rfl rfl ?_
          refine r_zald X (hw.2 _ _ (by first | decide | (simp [cnt] <;> omega))) (evA (by decide) (by decide)) (by first | with_reducible rfl | with_reducible assumption | (rw [pk_mul, nI_add])) (by first | with_reducible assumption | (simp [alen] <;> omega)) (by decide) dX3_needs_132 ?_
          first | with_reducible refine r_ifb_eq X dX3_needs_133 (tgt := 145) (by decide) (fun h4 => ?_) (fun h4 => ?_) | refine r_if_eq X dX3_needs_133 (tgt := 145) (by decide) (fun h4 => ?_) (fun h4 => ?_)
          · refine r_iload X dX3_needs_145 rfl ?_
            refine r_iadd X dX3_needs_147 ?_
            refine r_istore_n X dX3_needs_148 (i := 2) rfl (by decide) rfl ?_
            first | with_reducible refine r_iincn X dX3_needs_149 rfl (by decide) rfl ?_ | refine r_iinc1 X dX3_needs_149 rfl (by decide) rfl ?_
            refine r_goto X dX3_needs_152 (tgt := 85) (by decide) ?_
            refine r_lv (lv2 := [some (.ref (w.1 (3, 0))), some (.int (nI e9)), some (.int (ndS M e9 (k + 1))), some (.int (nI (k + 1))), none]) (lvs_c (Or.inr rfl) (lvs_c (Or.inr rfl) (lvs_c (Or.inr (by simp only [ndS, itn, ← hM, ndG, vf, h1, h2, h3, h4, and_self, and_true, true_and, and_false, false_and, if_true, if_false, not_true, not_false_eq_true])) (lvs_c (Or.inr rfl) (lvs_c (Or.inl rfl) lvs_n))))) ?_
            exact ih (k + 1) _ (by omega) (by rw [itn, ← hM]; simp [ndG, h1, h2, h3, h4]) (by first | with_reducible assumption | with_reducible rfl | omega | (with_reducible (repeat (first | assumption | refine DM_t ?_ | refine DM_ms rfl ?_ | refine DM_gr ?_ | refine DM_nd ?_ | refine DM_tk ?_ | refine DM_pt ?_ | refine DM_bg ?_ | refine DM_cs ?_)); done))
          · refine r_iload X dX3_needs_136 rfl ?_
            refine r_iconst X dX3_needs_138 (v := nI 1) (by decide) ?_
            refine r_iadd X dX3_needs_139 ?_
            refine r_iconst X dX3_needs_140 (v := nI 2) (by decide) ?_
            refine r_idiv X dX3_needs_141 (by decide) ?_
            refine r_goto X dX3_needs_142 (tgt := 147) (by decide) ?_
            refine r_iadd X dX3_needs_147 ?_
            refine r_istore_n X dX3_needs_148 (i := 2) rfl (by decide) rfl ?_
            first | with_reducible refine r_iincn X dX3_needs_149 rfl (by decide) rfl ?_ | refine r_iinc1 X dX3_needs_149 rfl (by decide) rfl ?_
            refine r_goto X dX3_needs_152 (tgt := 85) (by decide) ?_
            refine r_lv (lv2 := [some (.ref (w.1 (3, 0))), some (.int (nI e9)), some (.int (ndS M e9 (k + 1))), some (.int (nI (k + 1))), none]) (lvs_c (Or.inr rfl) (lvs_c (Or.inr rfl) (lvs_c (Or.inr (by simp only [ndS, itn, ← hM, ndG, vf, h1, h2, h3, h4, and_self, and_true, true_and, and_false, false_and, if_true, if_false, not_true, not_false_eq_true])) (lvs_c (Or.inr rfl) (lvs_c (Or.inl rfl) lvs_n))))) ?_
            exact ih (k + 1) _ (by omega) (by rw [itn, ← hM]; simp [ndG, h1, h2, h3, h4]) (by first | with_reducible assumption | with_reducible rfl | omega | (with_reducible (repeat (first | assumption | refine DM_t ?_ | refine DM_ms rfl ?_ | refine DM_gr ?_ | refine DM_nd ?_ | refine DM_tk ?_ | refine DM_pt ?_ | refine DM_bg ?_ | refine DM_cs ?_)); done))
      · refine r_iconst X dX3_needs_105 (v := nI 1) (by decide) ?_
        refine r_goto X dX3_needs_106 (tgt := 110) (by decide) ?_
        refine r_callV X (c_X3_greatest hnt hw (by first | with_reducible assumption | with_reducible rfl | omega | (with_reducible (repeat (first | assumption | refine DM_t ?_ | refine DM_ms rfl ?_ | refine DM_gr ?_ | refine DM_nd ?_ | refine DM_tk ?_ | refine DM_pt ?_ | refine DM_bg ?_ | refine DM_cs ?_)); done))) mw_X3_greatest kc3 mi_X3_greatest (hw.2 _ _ (by first | decide | (simp [cnt] <;> omega))) ev3 ml_X3_122 rfl rfl (Nat.le_of_ble_eq_true rfl) (by first | decide | (simp only [rmv]; omega)) (by first | decide | (simp only [rmv]; omega)) (by first | decide | (simp only [rmv]; omega)) (by first | decide | (simp only [rmv]; omega)) dX3_needs_110 (ko1 ?_)
        refine r_istore X dX3_needs_113 (by decide) rfl ?_
        refine r_iload_n X dX3_needs_115 (i := 2) rfl rfl ?_
        refine r_aload_n X dX3_needs_116 (i := 0) rfl rfl ?_
        refine r_get X kc3 (j := 24) (hw.2 _ _ (by first | decide | (simp [cnt] <;> omega))) ev3 (by decide) rfl fl_X3_65 dX3_needs_117 ?_
        refine r_iload_n X dX3_needs_120 (i := 1) rfl rfl ?_
        refine r_cald X (hw.2 _ _ (by first | decide | (simp [cnt] <;> omega))) (evA (by decide) (by decide)) (by first | with_reducible rfl | with_reducible assumption | (rw [pk_mul, nI_add])) (by first | with_reducible assumption | (simp [alen] <;> omega)) (by decide) dX3_needs_121 ?_
        refine r_bipush X dX3_needs_122 (v := nI 117) (by decide) ?_
        first | with_reducible refine r_icmpn_ne X dX3_needs_124 (tgt := 145) (by decide) (by omega) (by omega) (fun h5 => ?_) (fun h5 => ?_) | refine r_icmp_ne X dX3_needs_124 (tgt := 145) (by decide) (fun h5 => ?_) (fun h5 => ?_)
        · refine r_iload X dX3_needs_145 rfl ?_
          refine r_iadd X dX3_needs_147 ?_
          refine r_istore_n X dX3_needs_148 (i := 2) rfl (by decide) rfl ?_
          first | with_reducible refine r_iincn X dX3_needs_149 rfl (by decide) rfl ?_ | refine r_iinc1 X dX3_needs_149 rfl (by decide) rfl ?_
          refine r_goto X dX3_needs_152 (tgt := 85) (by decide) ?_
          refine r_lv (lv2 := [some (.ref (w.1 (3, 0))), some (.int (nI e9)), some (.int (ndS M e9 (k + 1))), some (.int (nI (k + 1))), none]) (lvs_c (Or.inr rfl) (lvs_c (Or.inr rfl) (lvs_c (Or.inr (by simp only [ndS, itn, ← hM, ndG, vf, h1, h2, h5, and_self, and_true, true_and, and_false, false_and, if_true, if_false, not_true, not_false_eq_true])) (lvs_c (Or.inr rfl) (lvs_c (Or.inl rfl) lvs_n))))) ?_
          exact ih (k + 1) _ (by omega) (by rw [itn, ← hM]; simp [ndG, h1, h2, h5]) (by first | with_reducible assumption | with_reducible rfl | omega | (with_reducible (repeat (first | assumption | refine DM_t ?_ | refine DM_ms rfl ?_ | refine DM_gr ?_ | refine DM_nd ?_ | refine DM_tk ?_ | refine DM_pt ?_ | refine DM_bg ?_ | refine DM_cs ?_)); done))
        · refine r_aload_n X dX3_needs_127 (i := 0) rfl rfl ?_
          refine r_get X kc3 (j := 16) (hw.2 _ _ (by first | decide | (simp [cnt] <;> omega))) ev3 (by decide) rfl fl_X3_41 dX3_needs_128 ?_
          refine r_iload_n X dX3_needs_131 (i := 1) rfl rfl ?_
          refine r_zald X (hw.2 _ _ (by first | decide | (simp [cnt] <;> omega))) (evA (by decide) (by decide)) (by first | with_reducible rfl | with_reducible assumption | (rw [pk_mul, nI_add])) (by first | with_reducible assumption | (simp [alen] <;> omega)) (by decide) dX3_needs_132 ?_
          first | with_reducible refine r_ifb_eq X dX3_needs_133 (tgt := 145) (by decide) (fun h6 => ?_) (fun h6 => ?_) | refine r_if_eq X dX3_needs_133 (tgt := 145) (by decide) (fun h6 => ?_) (fun h6 => ?_)
          · refine r_iload X dX3_needs_145 rfl ?_
            refine r_iadd X dX3_needs_147 ?_
            refine r_istore_n X dX3_needs_148 (i := 2) rfl (by decide) rfl ?_
            first | with_reducible refine r_iincn X dX3_needs_149 rfl (by decide) rfl ?_ | refine r_iinc1 X dX3_needs_149 rfl (by decide) rfl ?_
            refine r_goto X dX3_needs_152 (tgt := 85) (by decide) ?_
            refine r_lv (lv2 := [some (.ref (w.1 (3, 0))), some (.int (nI e9)), some (.int (ndS M e9 (k + 1))), some (.int (nI (k + 1))), none]) (lvs_c (Or.inr rfl) (lvs_c (Or.inr rfl) (lvs_c (Or.inr (by simp only [ndS, itn, ← hM, ndG, vf, h1, h2, h5, h6, and_self, and_true, true_and, and_false, false_and, if_true, if_false, not_true, not_false_eq_true])) (lvs_c (Or.inr rfl) (lvs_c (Or.inl rfl) lvs_n))))) ?_
            exact ih (k + 1) _ (by omega) (by rw [itn, ← hM]; simp [ndG, h1, h2, h5, h6]) (by first | with_reducible assumption | with_reducible rfl | omega | (with_reducible (repeat (first | assumption | refine DM_t ?_ | refine DM_ms rfl ?_ | refine DM_gr ?_ | refine DM_nd ?_ | refine DM_tk ?_ | refine DM_pt ?_ | refine DM_bg ?_ | refine DM_cs ?_)); done))
          · refine r_iload X dX3_needs_136 rfl ?_
            refine r_iconst X dX3_needs_138 (v := nI 1) (by decide) ?_
            refine r_iadd X dX3_needs_139 ?_
            refine r_iconst X dX3_needs_140 (v := nI 2) (by decide) ?_
            refine r_idiv X dX3_needs_141 (by decide) ?_
            refine r_goto X dX3_needs_142 (tgt := 147) (by decide) ?_
            refine r_iadd X dX3_needs_147 ?_
            refine r_istore_n X dX3_needs_148 (i := 2) rfl (by decide) rfl ?_
            first | with_reducible refine r_iincn X dX3_needs_149 rfl (by decide) rfl ?_ | refine r_iinc1 X dX3_needs_149 rfl (by decide) rfl ?_
            refine r_goto X dX3_needs_152 (tgt := 85) (by decide) ?_
            refine r_lv (lv2 := [some (.ref (w.1 (3, 0))), some (.int (nI e9)), some (.int (ndS M e9 (k + 1))), some (.int (nI (k + 1))), none]) (lvs_c (Or.inr rfl) (lvs_c (Or.inr rfl) (lvs_c (Or.inr (by simp only [ndS, itn, ← hM, ndG, vf, h1, h2, h5, h6, and_self, and_true, true_and, and_false, false_and, if_true, if_false, not_true, not_false_eq_true])) (lvs_c (Or.inr rfl) (lvs_c (Or.inl rfl) lvs_n))))) ?_
            exact ih (k + 1) _ (by omega) (by rw [itn, ← hM]; simp [ndG, h1, h2, h5, h6]) (by first | with_reducible assumption | with_reducible rfl | omega | (with_reducible (repeat (first | assumption | refine DM_t ?_ | refine DM_ms rfl ?_ | refine DM_gr ?_ | refine DM_nd ?_ | refine DM_tk ?_ | refine DM_pt ?_ | refine DM_bg ?_ | refine DM_cs ?_)); done))

set_option maxHeartbeats 4000000 in
set_option maxRecDepth 100000 in
theorem c_X3_needs {l : Launch} {w : Wo} {M : Mem} {G : Lng} {x : Int32} {e9 : Nat} (hnt : l.stackTraces = false) (hw : WK w) (hD : DM M) (hx : x = nI e9) (he : e9 < 5) : CT l yX3_needs [Cond.code yX3_needs cX3_needs 5 (some .int)] 2 0 0 w [.ref (w.1 (3, 0)), .int x] M G (okO (some (.int (ndV M e9))) (ndM M e9) G) := by
  refine CT_of hnt hw.1 mw_X3_needs (by simp [Value.category]) (Nat.le_of_ble_eq_true rfl) (fun p e s m args below meth c X => ?_)
  subst hx
  refine r_iconst X dX3_needs_0 (v := nI 0) (by decide) ?_
  refine r_istore_n X dX3_needs_1 (i := 2) rfl (by decide) rfl ?_
  refine r_aload_n X dX3_needs_2 (i := 0) rfl rfl ?_
  refine r_get X kc3 (j := 24) (hw.2 _ _ (by first | decide | (simp [cnt] <;> omega))) ev3 (by decide) rfl fl_X3_65 dX3_needs_3 ?_
  refine r_iload_n X dX3_needs_6 (i := 1) rfl rfl ?_
  refine r_cald X (hw.2 _ _ (by first | decide | (simp [cnt] <;> omega))) (evA (by decide) (by decide)) (by first | with_reducible rfl | with_reducible assumption | (rw [pk_mul, nI_add])) (by first | with_reducible assumption | (simp [alen] <;> omega)) (by decide) dX3_needs_7 ?_
  refine r_bipush X dX3_needs_8 (v := nI 99) (by decide) ?_
  first | with_reducible refine r_icmpn_ne X dX3_needs_10 (tgt := 83) (by decide) (by omega) (by omega) (fun h1 => ?_) (fun h1 => ?_) | refine r_icmp_ne X dX3_needs_10 (tgt := 83) (by decide) (fun h1 => ?_) (fun h1 => ?_)
  · refine r_iconst X dX3_needs_83 (v := nI 0) (by decide) ?_
    refine r_istore_n X dX3_needs_84 (i := 3) rfl (by decide) rfl ?_
    refine r_lv (lv2 := [some (.ref (w.1 (3, 0))), some (.int (nI e9)), some (.int (nI 0)), some (.int (nI 0)), none]) (lvs_c (Or.inr rfl) (lvs_c (Or.inr rfl) (lvs_c (Or.inr rfl) (lvs_c (Or.inr rfl) (lvs_c (Or.inl rfl) lvs_n))))) ?_
    exact lp_nds hnt hw X hD he h1 10 0 M rfl (itn0 _ _).symm hD
  · refine r_iconst X dX3_needs_13 (v := nI 0) (by decide) ?_
    refine r_istore_n X dX3_needs_14 (i := 3) rfl (by decide) rfl ?_
    refine r_lv (lv2 := [some (.ref (w.1 (3, 0))), some (.int (nI e9)), some (.int (nI 0)), some (.int (nI 0)), none]) (lvs_c (Or.inr rfl) (lvs_c (Or.inr rfl) (lvs_c (Or.inr rfl) (lvs_c (Or.inr rfl) (lvs_c (Or.inl rfl) lvs_n))))) ?_
    exact lp_ndc hnt hw X hD he h1 (ix (M 3 0 1)) 0 (by omega)

set_option maxHeartbeats 4000000 in
set_option maxRecDepth 100000 in
theorem lp_take {p : Program} {l : Launch} {e : Env} {s : State} {m : MethodId} {args : Array Value} {below : List Frame} {meth : Method} {c : Code} {w : Wo} {M : Mem} {G : Lng} (hnt : l.stackTraces = false) (hw : WK w) (X : Cx p l (rmv 1 0 0) s m args meth c cX3_take 2 yX3_take.cls none [] w) (hD : DM M) : ∀ (n k : Nat) (M1 : Mem), k + n = ix (M 3 0 1) → M1 = itn tkG k M → M1 3 0 1 = M 3 0 1 → VE p l e (rmv 1 0 0) s m args below meth c (0) (0) (QV w (okO none (tkN M) G) below args s 0 0) 2 w 2 [some (.ref (w.1 (3, 0))), some (.int (nI k))] [] (ev w (M1) (G)) := by
  intro n
  induction n with
  | zero =>
    intro k M1 hk hM hE
    have h6 := hD.1.2
    refine r_iload_n X dX3_take_2 (i := 1) rfl rfl ?_
    refine r_aload_n X dX3_take_3 (i := 0) rfl rfl ?_
    refine r_get X kc3 (j := 1) (hw.2 _ _ (by first | decide | (simp [cnt] <;> omega))) ev3 (by decide) rfl fl_X3_100 dX3_take_4 ?_
    refine r_icmpr_ge X dX3_take_7 (tgt := 28) (by decide) (by with_reducible rfl) (hE.trans hD.1.1) (by omega) (by omega) (fun h1 => ?_) (fun h1 => ?_)
    · refine r_vret X dX3_take_28 (by first | decide | (simp only [rmv]; omega)) (by first | decide | (simp only [rmv]; omega)) ?_
      first | with_reducible rfl | (((have hkk : k = ix (M 3 0 1) := by omega); rw [hM, hkk]; rfl); done) | contradiction | with_reducible assumption
    · exact absurd h1 (by omega)
  | succ n ih =>
    intro k M1 hk hM hE
    have h6 := hD.1.2
    refine r_iload_n X dX3_take_2 (i := 1) rfl rfl ?_
    refine r_aload_n X dX3_take_3 (i := 0) rfl rfl ?_
    refine r_get X kc3 (j := 1) (hw.2 _ _ (by first | decide | (simp [cnt] <;> omega))) ev3 (by decide) rfl fl_X3_100 dX3_take_4 ?_
    refine r_icmpr_ge X dX3_take_7 (tgt := 28) (by decide) (by with_reducible rfl) (hE.trans hD.1.1) (by omega) (by omega) (fun h1 => ?_) (fun h1 => ?_)
    · exact absurd h1 (by omega)
    · refine r_aload_n X dX3_take_10 (i := 0) rfl rfl ?_
      refine r_get X kc3 (j := 26) (hw.2 _ _ (by first | decide | (simp [cnt] <;> omega))) ev3 (by decide) rfl fl_X3_72 dX3_take_11 ?_
      refine r_iload_n X dX3_take_14 (i := 1) rfl rfl ?_
      refine r_aload_n X dX3_take_15 (i := 0) rfl rfl ?_
      refine r_get X kc3 (j := 25) (hw.2 _ _ (by first | decide | (simp [cnt] <;> omega))) ev3 (by decide) rfl fl_X3_69 dX3_take_16 ?_
      refine r_iload_n X dX3_take_19 (i := 1) rfl rfl ?_
      refine r_iald X (hw.2 _ _ (by first | decide | (simp [cnt] <;> omega))) (evA (by decide) (by decide)) (by first | with_reducible rfl | with_reducible assumption | (rw [pk_mul, nI_add])) (by first | with_reducible assumption | (simp [alen] <;> omega)) (by decide) dX3_take_20 ?_
      refine r_iast X (hw.2 _ _ (by first | decide | (simp [cnt] <;> omega))) (evA (by decide) (by decide)) (by first | with_reducible rfl | with_reducible assumption | (rw [pk_mul, nI_add])) (by first | with_reducible assumption | (simp [alen] <;> omega)) (by decide) rfl dX3_take_21 (esA (by decide) (by decide)) ?_
      first | with_reducible refine r_iincn X dX3_take_22 rfl (by decide) rfl ?_ | refine r_iinc1 X dX3_take_22 rfl (by decide) rfl ?_
      refine r_goto X dX3_take_25 (tgt := 2) (by decide) ?_
      exact ih (k + 1) _ (by omega) (by rw [hM]; rfl) (by rw [ms_o (fun h => absurd h.1 (by decide))]; exact hE)

set_option maxHeartbeats 4000000 in
set_option maxRecDepth 100000 in
theorem c_X3_take {l : Launch} {w : Wo} {M : Mem} {G : Lng}  (hnt : l.stackTraces = false) (hw : WK w) (hD : DM M) : CT l yX3_take [Cond.code yX3_take cX3_take 2 none] 1 0 0 w [.ref (w.1 (3, 0))] M G (okO none (tkN M) G) := by
  refine CT_of hnt hw.1 mw_X3_take (by simp [Value.category]) (Nat.le_of_ble_eq_true rfl) (fun p e s m args below meth c X => ?_)
  refine r_iconst X dX3_take_0 (v := nI 0) (by decide) ?_
  refine r_istore_n X dX3_take_1 (i := 1) rfl (by decide) rfl ?_
  exact lp_take hnt hw X hD (ix (M 3 0 1)) 0 M (by omega) (itn0 _ _).symm rfl

set_option maxHeartbeats 4000000 in
set_option maxRecDepth 100000 in
theorem lp_put {p : Program} {l : Launch} {e : Env} {s : State} {m : MethodId} {args : Array Value} {below : List Frame} {meth : Method} {c : Code} {w : Wo} {M : Mem} {G : Lng} (hnt : l.stackTraces = false) (hw : WK w) (X : Cx p l (rmv 1 0 0) s m args meth c cX3_put 2 yX3_put.cls none [] w) (hD : DM M) : ∀ (n k : Nat) (M1 : Mem), k + n = ix (M 3 0 1) → M1 = itn ptG k M → M1 3 0 1 = M 3 0 1 → VE p l e (rmv 1 0 0) s m args below meth c (0) (0) (QV w (okO none (ptN M) G) below args s 0 0) 2 w 2 [some (.ref (w.1 (3, 0))), some (.int (nI k))] [] (ev w (M1) (G)) := by
  intro n
  induction n with
  | zero =>
    intro k M1 hk hM hE
    have h6 := hD.1.2
    refine r_iload_n X dX3_put_2 (i := 1) rfl rfl ?_
    refine r_aload_n X dX3_put_3 (i := 0) rfl rfl ?_
    refine r_get X kc3 (j := 1) (hw.2 _ _ (by first | decide | (simp [cnt] <;> omega))) ev3 (by decide) rfl fl_X3_100 dX3_put_4 ?_
    refine r_icmpr_ge X dX3_put_7 (tgt := 28) (by decide) (by with_reducible rfl) (hE.trans hD.1.1) (by omega) (by omega) (fun h1 => ?_) (fun h1 => ?_)
    · refine r_vret X dX3_put_28 (by first | decide | (simp only [rmv]; omega)) (by first | decide | (simp only [rmv]; omega)) ?_
      first | with_reducible rfl | (((have hkk : k = ix (M 3 0 1) := by omega); rw [hM, hkk]; rfl); done) | contradiction | with_reducible assumption
    · exact absurd h1 (by omega)
  | succ n ih =>
    intro k M1 hk hM hE
    have h6 := hD.1.2
    refine r_iload_n X dX3_put_2 (i := 1) rfl rfl ?_
    refine r_aload_n X dX3_put_3 (i := 0) rfl rfl ?_
    refine r_get X kc3 (j := 1) (hw.2 _ _ (by first | decide | (simp [cnt] <;> omega))) ev3 (by decide) rfl fl_X3_100 dX3_put_4 ?_
    refine r_icmpr_ge X dX3_put_7 (tgt := 28) (by decide) (by with_reducible rfl) (hE.trans hD.1.1) (by omega) (by omega) (fun h1 => ?_) (fun h1 => ?_)
    · exact absurd h1 (by omega)
    · refine r_aload_n X dX3_put_10 (i := 0) rfl rfl ?_
      refine r_get X kc3 (j := 25) (hw.2 _ _ (by first | decide | (simp [cnt] <;> omega))) ev3 (by decide) rfl fl_X3_69 dX3_put_11 ?_
      refine r_iload_n X dX3_put_14 (i := 1) rfl rfl ?_
      refine r_aload_n X dX3_put_15 (i := 0) rfl rfl ?_
      refine r_get X kc3 (j := 26) (hw.2 _ _ (by first | decide | (simp [cnt] <;> omega))) ev3 (by decide) rfl fl_X3_72 dX3_put_16 ?_
      refine r_iload_n X dX3_put_19 (i := 1) rfl rfl ?_
      refine r_iald X (hw.2 _ _ (by first | decide | (simp [cnt] <;> omega))) (evA (by decide) (by decide)) (by first | with_reducible rfl | with_reducible assumption | (rw [pk_mul, nI_add])) (by first | with_reducible assumption | (simp [alen] <;> omega)) (by decide) dX3_put_20 ?_
      refine r_iast X (hw.2 _ _ (by first | decide | (simp [cnt] <;> omega))) (evA (by decide) (by decide)) (by first | with_reducible rfl | with_reducible assumption | (rw [pk_mul, nI_add])) (by first | with_reducible assumption | (simp [alen] <;> omega)) (by decide) rfl dX3_put_21 (esA (by decide) (by decide)) ?_
      first | with_reducible refine r_iincn X dX3_put_22 rfl (by decide) rfl ?_ | refine r_iinc1 X dX3_put_22 rfl (by decide) rfl ?_
      refine r_goto X dX3_put_25 (tgt := 2) (by decide) ?_
      exact ih (k + 1) _ (by omega) (by rw [hM]; rfl) (by rw [ms_o (fun h => absurd h.1 (by decide))]; exact hE)

set_option maxHeartbeats 4000000 in
set_option maxRecDepth 100000 in
theorem c_X3_put {l : Launch} {w : Wo} {M : Mem} {G : Lng}  (hnt : l.stackTraces = false) (hw : WK w) (hD : DM M) : CT l yX3_put [Cond.code yX3_put cX3_put 2 none] 1 0 0 w [.ref (w.1 (3, 0))] M G (okO none (ptN M) G) := by
  refine CT_of hnt hw.1 mw_X3_put (by simp [Value.category]) (Nat.le_of_ble_eq_true rfl) (fun p e s m args below meth c X => ?_)
  refine r_iconst X dX3_put_0 (v := nI 0) (by decide) ?_
  refine r_istore_n X dX3_put_1 (i := 1) rfl (by decide) rfl ?_
  exact lp_put hnt hw X hD (ix (M 3 0 1)) 0 M (by omega) (itn0 _ _).symm rfl

set_option maxHeartbeats 4000000 in
set_option maxRecDepth 100000 in
theorem lp_begin {p : Program} {l : Launch} {e : Env} {s : State} {m : MethodId} {args : Array Value} {below : List Frame} {meth : Method} {c : Code} {w : Wo} {M : Mem} {G : Lng} (hnt : l.stackTraces = false) (hw : WK w) (X : Cx p l (rmv 1 0 0) s m args meth c cX3_begin 2 yX3_begin.cls none [] w) (hD : DM M) : ∀ (n k : Nat) (M1 : Mem), k + n = ix (M 3 0 1) → M1 = itn bgG k (ms M 3 0 4 (-1)) → M1 3 0 1 = M 3 0 1 → VE p l e (rmv 1 0 0) s m args below meth c (0) (0) (QV w (okO none (bgN M) G) below args s 0 0) 2 w 7 [some (.ref (w.1 (3, 0))), some (.int (nI k))] [] (ev w (M1) (G)) := by
  intro n
  induction n with
  | zero =>
    intro k M1 hk hM hE
    have h6 := hD.1.2
    refine r_iload_n X dX3_begin_7 (i := 1) rfl rfl ?_
    refine r_aload_n X dX3_begin_8 (i := 0) rfl rfl ?_
    refine r_get X kc3 (j := 1) (hw.2 _ _ (by first | decide | (simp [cnt] <;> omega))) ev3 (by decide) rfl fl_X3_100 dX3_begin_9 ?_
    refine r_icmpr_ge X dX3_begin_12 (tgt := 28) (by decide) (by with_reducible rfl) (hE.trans hD.1.1) (by omega) (by omega) (fun h1 => ?_) (fun h1 => ?_)
    · refine r_vret X dX3_begin_28 (by first | decide | (simp only [rmv]; omega)) (by first | decide | (simp only [rmv]; omega)) ?_
      first | with_reducible rfl | (((have hkk : k = ix (M 3 0 1) := by omega); rw [hM, hkk]; rfl); done) | contradiction | with_reducible assumption
    · exact absurd h1 (by omega)
  | succ n ih =>
    intro k M1 hk hM hE
    have h6 := hD.1.2
    refine r_iload_n X dX3_begin_7 (i := 1) rfl rfl ?_
    refine r_aload_n X dX3_begin_8 (i := 0) rfl rfl ?_
    refine r_get X kc3 (j := 1) (hw.2 _ _ (by first | decide | (simp [cnt] <;> omega))) ev3 (by decide) rfl fl_X3_100 dX3_begin_9 ?_
    refine r_icmpr_ge X dX3_begin_12 (tgt := 28) (by decide) (by with_reducible rfl) (hE.trans hD.1.1) (by omega) (by omega) (fun h1 => ?_) (fun h1 => ?_)
    · exact absurd h1 (by omega)
    · refine r_aload_n X dX3_begin_15 (i := 0) rfl rfl ?_
      refine r_get X kc3 (j := 25) (hw.2 _ _ (by first | decide | (simp [cnt] <;> omega))) ev3 (by decide) rfl fl_X3_69 dX3_begin_16 ?_
      refine r_iload_n X dX3_begin_19 (i := 1) rfl rfl ?_
      refine r_iconst X dX3_begin_20 (v := -1) (by decide) ?_
      refine r_iast X (hw.2 _ _ (by first | decide | (simp [cnt] <;> omega))) (evA (by decide) (by decide)) (by first | with_reducible rfl | with_reducible assumption | (rw [pk_mul, nI_add])) (by first | with_reducible assumption | (simp [alen] <;> omega)) (by decide) rfl dX3_begin_21 (esA (by decide) (by decide)) ?_
      first | with_reducible refine r_iincn X dX3_begin_22 rfl (by decide) rfl ?_ | refine r_iinc1 X dX3_begin_22 rfl (by decide) rfl ?_
      refine r_goto X dX3_begin_25 (tgt := 7) (by decide) ?_
      exact ih (k + 1) _ (by omega) (by rw [hM]; rfl) (by rw [ms_o (fun h => absurd h.1 (by decide))]; exact hE)

set_option maxHeartbeats 4000000 in
set_option maxRecDepth 100000 in
theorem c_X3_begin {l : Launch} {w : Wo} {M : Mem} {G : Lng}  (hnt : l.stackTraces = false) (hw : WK w) (hD : DM M) : CT l yX3_begin [Cond.code yX3_begin cX3_begin 2 none] 1 0 0 w [.ref (w.1 (3, 0))] M G (okO none (bgN M) G) := by
  refine CT_of hnt hw.1 mw_X3_begin (by simp [Value.category]) (Nat.le_of_ble_eq_true rfl) (fun p e s m args below meth c X => ?_)
  refine r_aload_n X dX3_begin_0 (i := 0) rfl rfl ?_
  refine r_iconst X dX3_begin_1 (v := -1) (by decide) ?_
  refine r_put X kc3 (j := 4) (hw.2 _ _ (by first | decide | (simp [cnt] <;> omega))) ev3 (by decide) (Nat.le_of_ble_eq_true rfl) fl_X3_129 rfl rfl rfl dX3_begin_2 es_3_4 ?_
  refine r_iconst X dX3_begin_5 (v := nI 0) (by decide) ?_
  refine r_istore_n X dX3_begin_6 (i := 1) rfl (by decide) rfl ?_
  exact lp_begin hnt hw X hD (ix (M 3 0 1)) 0 _ (by omega) (itn0 _ _).symm (ms_o (by decide))

set_option maxHeartbeats 4000000 in
set_option maxRecDepth 100000 in
theorem c_X3_isAllowed {l : Launch} {w : Wo} {M : Mem} {G : Lng} {x : Int32} {e9 : Nat} (hnt : l.stackTraces = false) (hw : WK w) (hD : DM M) (hx : x = nI e9) (he : e9 < 5) : CT l yX3_isAllowed [Cond.code yX3_isAllowed cX3_isAllowed 2 (some .boolean)] 3 0 0 w [.ref (w.1 (3, 0)), .int x] M G (okO (some (.int (bi (!decide (ndM M e9 24 0 e9 < ndV M e9))))) (ndM M e9) G) := by
  refine CT_of hnt hw.1 mw_X3_isAllowed (by simp [Value.category]) (Nat.le_of_ble_eq_true rfl) (fun p e s m args below meth c X => ?_)
  refine r_aload_n X dX3_isAllowed_0 (i := 0) rfl rfl ?_
  refine r_iload_n X dX3_isAllowed_1 (i := 1) rfl rfl ?_
  refine r_callV X (c_X3_needs hnt hw (by first | with_reducible assumption | with_reducible rfl | omega | (with_reducible (repeat (first | assumption | refine DM_t ?_ | refine DM_ms rfl ?_ | refine DM_gr ?_ | refine DM_nd ?_ | refine DM_tk ?_ | refine DM_pt ?_ | refine DM_bg ?_ | refine DM_cs ?_)); done)) (by first | with_reducible assumption | with_reducible rfl | omega | (with_reducible (repeat (first | assumption | refine DM_t ?_ | refine DM_ms rfl ?_ | refine DM_gr ?_ | refine DM_nd ?_ | refine DM_tk ?_ | refine DM_pt ?_ | refine DM_bg ?_ | refine DM_cs ?_)); done)) (by first | with_reducible assumption | with_reducible rfl | omega | (with_reducible (repeat (first | assumption | refine DM_t ?_ | refine DM_ms rfl ?_ | refine DM_gr ?_ | refine DM_nd ?_ | refine DM_tk ?_ | refine DM_pt ?_ | refine DM_bg ?_ | refine DM_cs ?_)); done))) mw_X3_needs kc3 mi_X3_needs (hw.2 _ _ (by first | decide | (simp [cnt] <;> omega))) ev3 ml_X3_126 rfl rfl (Nat.le_of_ble_eq_true rfl) (by first | decide | (simp only [rmv]; omega)) (by first | decide | (simp only [rmv]; omega)) (by first | decide | (simp only [rmv]; omega)) (by first | decide | (simp only [rmv]; omega)) dX3_isAllowed_2 (ko1 ?_)
  refine r_aload_n X dX3_isAllowed_5 (i := 0) rfl rfl ?_
  refine r_get X kc3 (j := 20) (hw.2 _ _ (by first | decide | (simp [cnt] <;> omega))) ev3 (by decide) rfl fl_X3_53 dX3_isAllowed_6 ?_
  refine r_iload_n X dX3_isAllowed_9 (i := 1) rfl rfl ?_
  refine r_iald X (hw.2 _ _ (by first | decide | (simp [cnt] <;> omega))) (evA (by decide) (by decide)) (by first | with_reducible rfl | with_reducible assumption | (rw [pk_mul, nI_add])) (by first | with_reducible assumption | (simp [alen] <;> omega)) (by decide) dX3_isAllowed_10 ?_
  first | with_reducible refine r_icmpn_gt X dX3_isAllowed_11 (tgt := 18) (by decide) (by omega) (by omega) (fun h1 => ?_) (fun h1 => ?_) | refine r_icmp_gt X dX3_isAllowed_11 (tgt := 18) (by decide) (fun h1 => ?_) (fun h1 => ?_)
  · refine r_iconst X dX3_isAllowed_18 (v := nI 0) (by decide) ?_
    refine r_zret X dX3_isAllowed_19 (by first | decide | (simp only [rmv]; omega)) (by first | decide | (simp only [rmv]; omega)) (by with_reducible rfl) ?_
    first | with_reducible rfl | (simp [bi_t, bi_f, h1]; done) | contradiction
  · refine r_iconst X dX3_isAllowed_14 (v := nI 1) (by decide) ?_
    refine r_goto X dX3_isAllowed_15 (tgt := 19) (by decide) ?_
    refine r_zret X dX3_isAllowed_19 (by first | decide | (simp only [rmv]; omega)) (by first | decide | (simp only [rmv]; omega)) (by with_reducible rfl) ?_
    first | with_reducible rfl | (simp [bi_t, bi_f, h1]; done) | contradiction

set_option maxHeartbeats 4000000 in
set_option maxRecDepth 100000 in
theorem c_X3_beyond {l : Launch} {w : Wo} {M : Mem} {G : Lng} {x : Int32} {e9 : Nat} (hnt : l.stackTraces = false) (hw : WK w) (hD : DM M) (hx : x = nI e9) (he : e9 < 5) : CT l yX3_beyond [Cond.code yX3_beyond cX3_beyond 3 (some .int)] 3 0 0 w [.ref (w.1 (3, 0)), .int x] M G (okO (some (.int (byV M e9))) (ndM M e9) G) := by
  refine CT_of hnt hw.1 mw_X3_beyond (by simp [Value.category]) (Nat.le_of_ble_eq_true rfl) (fun p e s m args below meth c X => ?_)
  refine r_aload_n X dX3_beyond_0 (i := 0) rfl rfl ?_
  refine r_iload_n X dX3_beyond_1 (i := 1) rfl rfl ?_
  refine r_callV X (c_X3_needs hnt hw (by first | with_reducible assumption | with_reducible rfl | omega | (with_reducible (repeat (first | assumption | refine DM_t ?_ | refine DM_ms rfl ?_ | refine DM_gr ?_ | refine DM_nd ?_ | refine DM_tk ?_ | refine DM_pt ?_ | refine DM_bg ?_ | refine DM_cs ?_)); done)) (by first | with_reducible assumption | with_reducible rfl | omega | (with_reducible (repeat (first | assumption | refine DM_t ?_ | refine DM_ms rfl ?_ | refine DM_gr ?_ | refine DM_nd ?_ | refine DM_tk ?_ | refine DM_pt ?_ | refine DM_bg ?_ | refine DM_cs ?_)); done)) (by first | with_reducible assumption | with_reducible rfl | omega | (with_reducible (repeat (first | assumption | refine DM_t ?_ | refine DM_ms rfl ?_ | refine DM_gr ?_ | refine DM_nd ?_ | refine DM_tk ?_ | refine DM_pt ?_ | refine DM_bg ?_ | refine DM_cs ?_)); done))) mw_X3_needs kc3 mi_X3_needs (hw.2 _ _ (by first | decide | (simp [cnt] <;> omega))) ev3 ml_X3_126 rfl rfl (Nat.le_of_ble_eq_true rfl) (by first | decide | (simp only [rmv]; omega)) (by first | decide | (simp only [rmv]; omega)) (by first | decide | (simp only [rmv]; omega)) (by first | decide | (simp only [rmv]; omega)) dX3_beyond_2 (ko1 ?_)
  refine r_aload_n X dX3_beyond_5 (i := 0) rfl rfl ?_
  refine r_get X kc3 (j := 20) (hw.2 _ _ (by first | decide | (simp [cnt] <;> omega))) ev3 (by decide) rfl fl_X3_53 dX3_beyond_6 ?_
  refine r_iload_n X dX3_beyond_9 (i := 1) rfl rfl ?_
  refine r_iald X (hw.2 _ _ (by first | decide | (simp [cnt] <;> omega))) (evA (by decide) (by decide)) (by first | with_reducible rfl | with_reducible assumption | (rw [pk_mul, nI_add])) (by first | with_reducible assumption | (simp [alen] <;> omega)) (by decide) dX3_beyond_10 ?_
  refine r_isub X dX3_beyond_11 ?_
  refine r_istore_n X dX3_beyond_12 (i := 2) rfl (by decide) rfl ?_
  refine r_iload_n X dX3_beyond_13 (i := 2) rfl rfl ?_
  refine r_if_le X dX3_beyond_14 (tgt := 21) (by decide) (fun h1 => ?_) (fun h1 => ?_)
  · refine r_iconst X dX3_beyond_21 (v := nI 0) (by decide) ?_
    refine r_iret X dX3_beyond_22 (by first | decide | (simp only [rmv]; omega)) (by first | decide | (simp only [rmv]; omega)) ?_
    first | with_reducible rfl | (simp [byV, h1]; done) | contradiction | with_reducible assumption
  · refine r_iload_n X dX3_beyond_17 (i := 2) rfl rfl ?_
    refine r_goto X dX3_beyond_18 (tgt := 22) (by decide) ?_
    refine r_iret X dX3_beyond_22 (by first | decide | (simp only [rmv]; omega)) (by first | decide | (simp only [rmv]; omega)) ?_
    first | with_reducible rfl | (simp [byV, h1]; done) | contradiction | with_reducible assumption

set_option maxHeartbeats 4000000 in
set_option maxRecDepth 100000 in
theorem lp_costs {p : Program} {l : Launch} {e : Env} {s : State} {m : MethodId} {args : Array Value} {below : List Frame} {meth : Method} {c : Code} {w : Wo} {M : Mem} {G : Lng} (hnt : l.stackTraces = false) (hw : WK w) (X : Cx p l (rmv 4 0 0) s m args meth c cX3_costs 3 yX3_costs.cls (some .int) [] w) (hD : DM M) : ∀ (n k : Nat) (M1 : Mem), k + n = ix (M 3 0 3) → M1 = itn csG k M → DM M1 → M1 3 0 3 = M 3 0 3 → VE p l e (rmv 4 0 0) s m args below meth c (0) (0) (QV w (okO (some (.int (csV M (ix (M 3 0 3))))) (csM M) G) below args s 0 0) 3 w 4 [some (.ref (w.1 (3, 0))), some (.int (csV M k)), some (.int (nI k))] [] (ev w (M1) (G)) := by
  intro n
  induction n with
  | zero =>
    intro k M1 hk hM hD1 hE
    have h6 := hD.2.2.1.2
    refine r_iload_n X dX3_costs_4 (i := 2) rfl rfl ?_
    refine r_aload_n X dX3_costs_5 (i := 0) rfl rfl ?_
    refine r_get X kc3 (j := 3) (hw.2 _ _ (by first | decide | (simp [cnt] <;> omega))) ev3 (by decide) rfl fl_X3_86 dX3_costs_6 ?_
    refine r_icmpr_ge X dX3_costs_9 (tgt := 33) (by decide) (by with_reducible rfl) (hE.trans hD.2.2.1.1) (by omega) (by omega) (fun h1 => ?_) (fun h1 => ?_)
    · refine r_iload_n X dX3_costs_33 (i := 1) rfl rfl ?_
      refine r_iret X dX3_costs_34 (by first | decide | (simp only [rmv]; omega)) (by first | decide | (simp only [rmv]; omega)) ?_
      first | with_reducible rfl | (((have hkk : k = ix (M 3 0 3) := by omega); rw [hM, hkk]; rfl); done) | contradiction | with_reducible assumption
    · exact absurd h1 (by omega)
  | succ n ih =>
    intro k M1 hk hM hD1 hE
    have h6 := hD.2.2.1.2
    refine r_iload_n X dX3_costs_4 (i := 2) rfl rfl ?_
    refine r_aload_n X dX3_costs_5 (i := 0) rfl rfl ?_
    refine r_get X kc3 (j := 3) (hw.2 _ _ (by first | decide | (simp [cnt] <;> omega))) ev3 (by decide) rfl fl_X3_86 dX3_costs_6 ?_
    refine r_icmpr_ge X dX3_costs_9 (tgt := 33) (by decide) (by with_reducible rfl) (hE.trans hD.2.2.1.1) (by omega) (by omega) (fun h1 => ?_) (fun h1 => ?_)
    · exact absurd h1 (by omega)
    · refine r_iload_n X dX3_costs_12 (i := 1) rfl rfl ?_
      refine r_aload_n X dX3_costs_13 (i := 0) rfl rfl ?_
      refine r_get X kc3 (j := 23) (hw.2 _ _ (by first | decide | (simp [cnt] <;> omega))) ev3 (by decide) rfl fl_X3_62 dX3_costs_14 ?_
      refine r_iload_n X dX3_costs_17 (i := 2) rfl rfl ?_
      refine r_iald X (hw.2 _ _ (by first | decide | (simp [cnt] <;> omega))) (evA (by decide) (by decide)) (by first | with_reducible rfl | with_reducible assumption | (rw [pk_mul, nI_add])) (by first | with_reducible assumption | (simp [alen] <;> omega)) (by decide) dX3_costs_18 ?_
      refine r_aload_n X dX3_costs_19 (i := 0) rfl rfl ?_
      refine r_iload_n X dX3_costs_20 (i := 2) rfl rfl ?_
      refine r_callV X (c_X3_beyond hnt hw (by first | with_reducible assumption | with_reducible rfl | omega | (with_reducible (repeat (first | assumption | refine DM_t ?_ | refine DM_ms rfl ?_ | refine DM_gr ?_ | refine DM_nd ?_ | refine DM_tk ?_ | refine DM_pt ?_ | refine DM_bg ?_ | refine DM_cs ?_)); done)) (by first | with_reducible assumption | with_reducible rfl | omega | (with_reducible (repeat (first | assumption | refine DM_t ?_ | refine DM_ms rfl ?_ | refine DM_gr ?_ | refine DM_nd ?_ | refine DM_tk ?_ | refine DM_pt ?_ | refine DM_bg ?_ | refine DM_cs ?_)); done)) (by first | with_reducible assumption | with_reducible rfl | omega | (with_reducible (repeat (first | assumption | refine DM_t ?_ | refine DM_ms rfl ?_ | refine DM_gr ?_ | refine DM_nd ?_ | refine DM_tk ?_ | refine DM_pt ?_ | refine DM_bg ?_ | refine DM_cs ?_)); done))) mw_X3_beyond kc3 mi_X3_beyond (hw.2 _ _ (by first | decide | (simp [cnt] <;> omega))) ev3 ml_X3_155 rfl rfl (Nat.le_of_ble_eq_true rfl) (by first | decide | (simp only [rmv]; omega)) (by first | decide | (simp only [rmv]; omega)) (by first | decide | (simp only [rmv]; omega)) (by first | decide | (simp only [rmv]; omega)) dX3_costs_21 (ko1 ?_)
      refine r_imul X dX3_costs_24 ?_
      refine r_iadd X dX3_costs_25 ?_
      refine r_istore_n X dX3_costs_26 (i := 1) rfl (by decide) rfl ?_
      first | with_reducible refine r_iincn X dX3_costs_27 rfl (by decide) rfl ?_ | refine r_iinc1 X dX3_costs_27 rfl (by decide) rfl ?_
      refine r_goto X dX3_costs_30 (tgt := 4) (by decide) ?_
      refine r_lv (lv2 := [some (.ref (w.1 (3, 0))), some (.int (csV M (k + 1))), some (.int (nI (k + 1)))]) (lvs_c (Or.inr rfl) (lvs_c (Or.inr (by rw [csV, ← hM])) (lvs_c (Or.inr rfl) lvs_n))) ?_
      exact ih (k + 1) _ (by omega) (by rw [itn, ← hM]; rfl) (by first | with_reducible assumption | with_reducible rfl | omega | (with_reducible (repeat (first | assumption | refine DM_t ?_ | refine DM_ms rfl ?_ | refine DM_gr ?_ | refine DM_nd ?_ | refine DM_tk ?_ | refine DM_pt ?_ | refine DM_bg ?_ | refine DM_cs ?_)); done)) ((Mm_nd Mm.rf 3 0 3 rfl).trans hE)

set_option maxHeartbeats 4000000 in
set_option maxRecDepth 100000 in
theorem c_X3_costs {l : Launch} {w : Wo} {M : Mem} {G : Lng}  (hnt : l.stackTraces = false) (hw : WK w) (hD : DM M) : CT l yX3_costs [Cond.code yX3_costs cX3_costs 3 (some .int)] 4 0 0 w [.ref (w.1 (3, 0))] M G (okO (some (.int (csV M (ix (M 3 0 3))))) (csM M) G) := by
  refine CT_of hnt hw.1 mw_X3_costs (by simp [Value.category]) (Nat.le_of_ble_eq_true rfl) (fun p e s m args below meth c X => ?_)
  refine r_iconst X dX3_costs_0 (v := nI 0) (by decide) ?_
  refine r_istore_n X dX3_costs_1 (i := 1) rfl (by decide) rfl ?_
  refine r_iconst X dX3_costs_2 (v := nI 0) (by decide) ?_
  refine r_istore_n X dX3_costs_3 (i := 2) rfl (by decide) rfl ?_
  exact lp_costs hnt hw X hD (ix (M 3 0 3)) 0 M (by omega) (itn0 _ _).symm hD rfl

end N2
