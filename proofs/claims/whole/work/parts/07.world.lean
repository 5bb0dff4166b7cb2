/-! THE WORLD: every object and array of the run has a key (tag, number); what it holds is read off a memory M of ints (tag, number, place) and G of longs (tag) -/
section World
def gw (w : Cond) : Bool := match w with
  | .arrayClass _ => true
  | .fieldLinkNest _ _ _ _ _ _ => true
  | .methodLinkNest _ _ _ _ => true
  | .castable _ _ => true
  | .declares _ => true
  | w => w.onTables && w.keeps
theorem gw_warm {w : Cond} (hg : gw w = true) {a a' : Array Value} {s U : State} (hW : s.WarmedH U.vm) (h : w.before a s = true) : w.before a' U = true := by
  cases w
  case arrayClass ty => exact word_at hW (Or.inr ⟨_, rfl⟩) h
  case fieldLinkNest => exact va_Nw.use rfl (va_Nw.warmF hW (va_Nw.of rfl h))
  case methodLinkNest => exact va_Nw.use rfl (va_Nw.warmM hW (va_Nw.of rfl h))
  case castable => exact va_Nw.use rfl (va_Nw.warmC hW (va_Nw.of rfl h))
  case declares => exact va_Nw.use rfl (va_Nw.warmD hW (va_Nw.of rfl h))
  all_goals exact word_at hW (Or.inl hg) h
/-- the tables' words that stay -/
def GW (U : State) : Prop := ∀ w ∈ lw_tbl, gw w = true → w.before #[] U = true
theorem GW.at {s : State} (h : GW s) {a : Array Value} {w : Cond} (hm : w ∈ lw_tbl) (hg : gw w = true) : w.before a s = true := gw_warm hg (State.WarmedH.refl s) (h w hm hg)
theorem GW.warm {s U : State} (h : GW s) (hW : s.WarmedH U.vm) : GW U := fun w hm hg => gw_warm hg hW (h w hm hg)
/-- a world: addresses of the keys, the keys that stand, the classes' numbers, the array classes -/
abbrev Wo : Type := (Nat × Nat → Nat) × List (Nat × Nat) × va_G × (Nat → ClassId)
def tyl (cA : Nat → ClassId) : List (ClassId × FieldType) := [(cA 0, .int), (cA 1, .boolean), (cA 2, .char), (cA 3, .long), (cA 4, .double), (cA 5, .object "Entitled$Entitlement"), (cA 6, .object "Entitled$Install")]
def WL (w : Wo) (E : Nat × Nat → va_E) : va_W := w.2.1.map (fun k => (w.1 k, E k))
def eset (E : Nat × Nat → va_E) (k : Nat × Nat) (v : va_E) : Nat × Nat → va_E := fun k' => if k' = k then v else E k'
theorem WL_get {w : Wo} {E : Nat × Nat → va_E} {q : Nat} {k : Nat × Nat} (h : w.2.1[q]? = some k) : (WL w E)[q]? = some (w.1 k, E k) := by simp [WL, h]
theorem WL_in {w : Wo} {k : Nat × Nat} (h : k ∈ w.2.1) : ∃ q : Nat, w.2.1[q]? = some k := List.getElem?_of_mem h
/-- different places, different addresses -/
def WI (w : Wo) : Prop := ∀ (i j : Nat) (k k' : Nat × Nat), w.2.1[i]? = some k → w.2.1[j]? = some k' → w.1 k = w.1 k' → i = j
theorem WL_set {w : Wo} (hI : WI w) {E : Nat × Nat → va_E} {q : Nat} {k : Nat × Nat} (h : w.2.1[q]? = some k) (v : va_E) : (WL w E).set q (w.1 k, v) = WL w (eset E k v) := by
  apply List.ext_getElem?
  intro n
  by_cases hn : q = n
  · subst hn
    have hl : q < (WL w E).length := by rw [WL, List.length_map]; exact (List.getElem?_eq_some_iff.mp h).1
    rw [List.getElem?_set_self hl]
    simp [WL, h, eset]
  · rw [List.getElem?_set_ne hn]
    simp only [WL, List.getElem?_map]
    cases h2 : w.2.1[n]? with
    | none => rfl
    | some k2 =>
      have hk : k2 ≠ k := fun e => hn (hI q n k k2 h h2 (by rw [e]))
      simp [eset, hk]
def AW (w : Wo) (q : Nat) : Prop := ∃ k, k ∈ w.2.1 ∧ w.1 k = q
def AA (w : Wo) (sz : Nat) (q : Nat) : Prop := AW w q ∨ sz ≤ q
theorem WD {w : Wo} (hI : WI w) (sz : Nat) (E : Nat × Nat → va_E) : va_D (AA w sz) (WL w E) := by
  refine ⟨fun i j p q hp hq e => ?_, fun k q hq => ?_⟩
  · simp only [WL, List.getElem?_map, Option.map_eq_some_iff] at hp hq
    obtain ⟨k1, h1, rfl⟩ := hp
    obtain ⟨k2, h2, rfl⟩ := hq
    exact hI i j k1 k2 h1 h2 e
  · simp only [WL, List.getElem?_map, Option.map_eq_some_iff] at hq
    obtain ⟨k1, h1, rfl⟩ := hq
    exact Or.inl ⟨k1, List.mem_of_getElem? h1, rfl⟩
/-- the texts of the exceptions, and the classes that aren't one another's -/
def SW : List (Nat × String) := [(104, "an entitlement's value is out of range"), (109, "no more entitlements can be added"), (131, "the minimum is out of range"), (139, "the entitlement is not counted by cores"), (145, "the price is out of range"), (150, "the number of units is out of range"), (155, "the entitlement would have too many units"), (171, "no entitlement fits the install"), (187, "too many installs to try all assignments"), (204, "the install is not covered"), (232, "no install is there"), (239, "no such install is there"), (242, "no such entitlement"), (244, "no entitlement fits some install"), (50, "an install's value is out of range"), (64, "no more installs can be made now"), (79, "the device or the user is out of range"), (87, "the version or the edition is out of range"), (95, "the pool is out of range")]
def xIAE : String := "java/lang/IllegalArgumentException"
def xISE : String := "java/lang/IllegalStateException"
def xIOB : String := "java/lang/IndexOutOfBoundsException"
def xUOE : String := "java/lang/UnsupportedOperationException"
def xNSE : String := "java/util/NoSuchElementException"
def NCs : List (String × String) := [(xIAE, xISE), (xIAE, xIOB), (xIAE, xUOE), (xIAE, xNSE), (xISE, xIAE), (xISE, xIOB), (xISE, xUOE), (xISE, xNSE), (xIOB, xIAE), (xIOB, xISE), (xIOB, xUOE), (xIOB, xNSE), (xUOE, xIAE), (xUOE, xISE), (xUOE, xIOB), (xUOE, xNSE), (xNSE, xIAE), (xNSE, xISE), (xNSE, xIOB), (xNSE, xUOE)]
/-- what the tables say -/
def KW (w : Wo) (U : State) : Prop := GW U ∧ va_K w.2.2.1 vwCl (tyl w.2.2.2) U ∧ (∀ q ∈ SW, ∃ sa, vk_R "Entitled" q.1 q.2 sa U) ∧ ∀ q ∈ NCs, va_Nc q.1 q.2 U
theorem KW.warm {w : Wo} {s U : State} (h : KW w s) (hW : s.WarmedH U.vm) : KW w U :=
  ⟨h.1.warm hW, va_K.moved hW.alike h.2.1, fun q hq => by obtain ⟨sa, hs⟩ := h.2.2.1 q hq; exact ⟨sa, vk_R.warm hW hs⟩, fun q hq => va_Nc.moved hW.alike (h.2.2.2 q hq)⟩
theorem KW.same {w : Wo} {s U : State} (h : KW w s) (hv : U.vm = s.vm) : KW w U := h.warm (by rw [hv]; exact State.WarmedH.refl s)
/-- the two statics of Throwable, apart from the world -/
def HZ (w : Wo) (U : State) (H : Heap) : Prop := vx_Zq Bundle.tN "UNASSIGNED_STACK" Bundle.steD (AW w) U H ∧ vx_Zq Bundle.tN "SUPPRESSED_SENTINEL" Bundle.listD (AW w) U H
theorem vx_Zq.other {C n d : String} {A B : Nat → Prop} {U : State} {H : Heap} (h : vx_Zq C n d A U H) (hAB : ∀ q, q < H.size → B q → A q) : vx_Zq C n d B U H := by
  have lt : ∀ {a : Nat} {cell : Cell}, H[a]? = some cell → a < H.size := fun h => (Array.getElem?_eq_some_iff.mp h).1
  obtain ⟨h1, c, k, i, f, a, cell, g1, g2, g3, g4, g5, g6, g7, g8, g9, g10⟩ := h
  refine ⟨?_, c, k, i, f, a, cell, g1, g2, g3, g4, g5, g6, g7, g8, g9, fun z => g10 (hAB _ (lt g5) z)⟩
  rcases h1 with ⟨cf, kf, fi, f, a, cell, e1, e2, e3, e4, e5, e6, e7, e8⟩ | ⟨t, cf, kf, fi, f, a, cell, e1, e2, e3, e4, e5, e6, e7, e8⟩
  · exact Or.inl ⟨cf, kf, fi, f, a, cell, e1, e2, e3, e4, e5, e6, e7, fun z => e8 (hAB _ (lt e5) z)⟩
  · exact Or.inr ⟨t, cf, kf, fi, f, a, cell, e1, e2, e3, e4, e5, e6, e7, fun z => e8 (hAB _ (lt e5) z)⟩
theorem HZ.move {w : Wo} {u U : State} {H H1 : Heap} {sz : Nat} (h : HZ w u H) (hvm : u.vm.Alike U.vm) (hsz : H.size ≤ sz) (hq : ∀ a : Nat, a < H.size → ¬ AA w sz a → H1[a]? = H[a]?) : HZ w U H1 := by
  have g : ∀ {C n d : String}, vx_Zq C n d (AW w) u H → vx_Zq C n d (AW w) U H1 := fun {C n d} z => by
    have z1 := vx_Zq.other (B := AA w sz) z (fun q h1 h2 => h2.elim id (fun h3 => absurd h1 (by omega)))
    exact ((z1.moved hvm).kept hq).narrow (fun q h => Or.inl h)
  exact ⟨g h.1, g h.2⟩
theorem HZ.all {w : Wo} {U : State} {H : Heap} {sz : Nat} (h : HZ w U H) (hsz : H.size ≤ sz) : vx_Zq Bundle.tN "UNASSIGNED_STACK" Bundle.steD (AA w sz) U H ∧ vx_Zq Bundle.tN "SUPPRESSED_SENTINEL" Bundle.listD (AA w sz) U H :=
  ⟨h.1.other (fun q h1 h2 => h2.elim id (fun h3 => absurd h1 (by omega))), h.2.other (fun q h1 h2 => h2.elim id (fun h3 => absurd h1 (by omega)))⟩
/-- ints and longs -/
abbrev Mem : Type := Nat → Nat → Nat → Int32
abbrev Lng : Type := Nat × Nat → Int64
def ms (M : Mem) (c i k : Nat) (v : Int32) : Mem := fun c' i' k' => if c' = c ∧ i' = i ∧ k' = k then v else M c' i' k'
def gs (G : Lng) (k : Nat × Nat) (v : Int64) : Lng := fun k' => if k' = k then v else G k'
def bi (b : Bool) : Int32 := if b = true then 1 else 0
/-- the arrays of ints: their class (its place in tyl), their length -/
def aty (c : Nat) : Nat := if c = 17 then 1 else if c = 18 then 1 else if c = 19 then 1 else if c = 20 then 1 else if c = 28 then 2 else 0
def alen (c : Nat) : Nat := if c = 8 then 13 else if c = 9 then 40 else if c = 31 then 4 else if c ≤ 17 then 12 else if c ≤ 28 then 5 else 12
def cnt (c : Nat) : Nat := if c = 0 then 5 else if c = 1 then 12 else if c = 9 then 5 else if c ≤ 31 then 1 else if c = 40 then 1 else if c = 41 then 1 else 0
def ev (w : Wo) (M : Mem) (G : Lng) (k : Nat × Nat) : va_E :=
  if k.1 = 0 then .inr (0, [.int (M 0 k.2 0), .int (M 0 k.2 1), .int (M 0 k.2 2), .int (M 0 k.2 3), .int (M 0 k.2 4), .int (M 0 k.2 5), .int (M 0 k.2 6), .int (M 0 k.2 7), .int (M 0 k.2 8), .int (M 0 k.2 9), .int (M 0 k.2 10), .ref (w.1 (9, k.2)), .int (M 0 k.2 12)])
  else if k.1 = 1 then .inr (1, [.int (M 1 k.2 0), .int (M 1 k.2 1), .int (M 1 k.2 2), .int (M 1 k.2 3), .int (M 1 k.2 4), .int (M 1 k.2 5), .int (M 1 k.2 6), .int (M 1 k.2 7)])
  else if k.1 = 2 then .inr (2, [.ref (w.1 (4, 0)), .ref (w.1 (5, 0)), .int (M 2 k.2 2), .int (M 2 k.2 3), .int (M 2 k.2 4), .long (G k), .ref (w.1 (6, 0)), .ref (w.1 (7, 0)), .ref (w.1 (8, 0)), .int (M 2 k.2 9)])
  else if k.1 = 3 then .inr (3, [.int (M 3 k.2 0), .int (M 3 k.2 1), .int (M 3 k.2 2), .int (M 3 k.2 3), .int (M 3 k.2 4), .long (G k), .ref (w.1 (10, 0)), .ref (w.1 (11, 0)), .ref (w.1 (12, 0)), .ref (w.1 (13, 0)), .ref (w.1 (14, 0)), .ref (w.1 (15, 0)), .ref (w.1 (16, 0)), .ref (w.1 (17, 0)), .ref (w.1 (18, 0)), .ref (w.1 (19, 0)), .ref (w.1 (20, 0)), .ref (w.1 (21, 0)), .ref (w.1 (22, 0)), .ref (w.1 (23, 0)), .ref (w.1 (24, 0)), .ref (w.1 (25, 0)), .ref (w.1 (26, 0)), .ref (w.1 (27, 0)), .ref (w.1 (28, 0)), .ref (w.1 (29, 0)), .ref (w.1 (30, 0)), .ref (w.1 (31, 0))])
  else if k.1 = 4 then .inl (w.2.2.2 6, (12, .inr (.inr (.inr (.inr (fun j => some (w.1 (1, j))))))))
  else if k.1 = 5 then .inl (w.2.2.2 5, (5, .inr (.inr (.inr (.inr (fun j => some (w.1 (0, j))))))))
  else if k.1 = 40 then .inl (w.2.2.2 3, (1, .inr (.inl (fun _ => G k))))
  else if k.1 = 41 then .inl (w.2.2.2 4, (1, .inr (.inr (.inr (.inl (fun _ => (G k).toUInt64))))))
  else .inl (w.2.2.2 (aty k.1), (alen k.1, .inl (M k.1 k.2)))
/-- an outcome: what is thrown, what is answered, the memory behind it -/
abbrev Oc : Type := Option String × Option Value × Mem × Lng
def okO (v : Option Value) (M : Mem) (G : Lng) : Oc := (none, v, M, G)
def thO (X : String) (M : Mem) (G : Lng) : Oc := (some X, none, M, G)
def WH (w : Wo) (E : Nat × Nat → va_E) (H : Heap) : Prop := va_P w.2.2.1 vwCl (WL w E) H
def Wd (w : Wo) (E : Nat × Nat → va_E) (U : State) : Prop := va_P w.2.2.1 vwCl (WL w E) U.heap ∧ KW w U ∧ HZ w U U.heap
def rmv (n mc ms : Nat) : Room := { frames := n, cells := mc, slots := ms, locals := 40 * n }
/-- the contract of a method: at these arguments and this memory it has this outcome -/
def CT (l : Launch) (y : MethodName) (ws : List Cond) (n mc ms : Nat) (w : Wo) (av : List Value) (M : Mem) (G : Lng) (o : Oc) : Prop :=
  ∀ sz, vx_Met l y ws (rmv n mc ms) (va_Pc av (fun U => U.heap.size = sz ∧ Wd w (ev w M G) U))
    (fun _ st oc t => o.1 = none ∧ oc = .returned o.2.1 ∧ WH w (ev w o.2.2.1 o.2.2.2) t.heap ∧ va_F (AA w sz) st t)
    (fun X st t => o.1 = some X ∧ WH w (ev w o.2.2.1 o.2.2.2) t.heap ∧ va_F (AA w sz) st t) mc ms (AA w sz)
end World
