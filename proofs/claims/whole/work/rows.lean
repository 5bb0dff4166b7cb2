section
-- ===== PART A: goes FIRST, ahead of the names: the tables' words, and 'selects' of the private methods out of them =====
/-- a private method of a class that the tables say can be made, by its rows of tables_1 -/
def lw_okq (q : MethodName × Nat) : Prop := (q.1.cls ≠ "java/lang/invoke/MethodHandle" ∧ q.1.cls ≠ "java/lang/invoke/VarHandle") ∧ Cond.instantiable q.1.cls q.2 ∈ tables_1 ∧ Cond.privateMethod q.1 ∈ tables_1 ∧ Cond.instanceMethod q.1 ∈ tables_1
theorem lw_p0 : lw_okq (⟨"Entitled", "findCover", "()I"⟩, 10) := ⟨⟨by decide +kernel, by decide +kernel⟩, List.mem_of_getElem? (i := 16) (by decide +kernel), List.mem_of_getElem? (i := 172) (by decide +kernel), List.mem_of_getElem? (i := 173) (by decide +kernel)⟩
theorem lw_p1 : lw_okq (⟨"Entitled", "clearSearch", "(I)V"⟩, 10) := ⟨⟨by decide +kernel, by decide +kernel⟩, List.mem_of_getElem? (i := 16) (by decide +kernel), List.mem_of_getElem? (i := 176) (by decide +kernel), List.mem_of_getElem? (i := 177) (by decide +kernel)⟩
theorem lw_p2 : lw_okq (⟨"Entitled", "clearNeeds", "()V"⟩, 10) := ⟨⟨by decide +kernel, by decide +kernel⟩, List.mem_of_getElem? (i := 16) (by decide +kernel), List.mem_of_getElem? (i := 180) (by decide +kernel), List.mem_of_getElem? (i := 181) (by decide +kernel)⟩
theorem lw_p3 : lw_okq (⟨"Entitled$Entitlement", "clearNeed", "()V"⟩, 13) := ⟨⟨by decide +kernel, by decide +kernel⟩, List.mem_of_getElem? (i := 71) (by decide +kernel), List.mem_of_getElem? (i := 184) (by decide +kernel), List.mem_of_getElem? (i := 185) (by decide +kernel)⟩
theorem lw_p4 : lw_okq (⟨"Entitled", "countFitting", "(LEntitled$Install;)I"⟩, 10) := ⟨⟨by decide +kernel, by decide +kernel⟩, List.mem_of_getElem? (i := 16) (by decide +kernel), List.mem_of_getElem? (i := 188) (by decide +kernel), List.mem_of_getElem? (i := 189) (by decide +kernel)⟩
theorem lw_p5 : lw_okq (⟨"Entitled$Entitlement", "fits", "(LEntitled$Install;)Z"⟩, 13) := ⟨⟨by decide +kernel, by decide +kernel⟩, List.mem_of_getElem? (i := 71) (by decide +kernel), List.mem_of_getElem? (i := 192) (by decide +kernel), List.mem_of_getElem? (i := 193) (by decide +kernel)⟩
theorem lw_p6 : lw_okq (⟨"Entitled$Entitlement", "misfit", "(LEntitled$Install;)C"⟩, 13) := ⟨⟨by decide +kernel, by decide +kernel⟩, List.mem_of_getElem? (i := 71) (by decide +kernel), List.mem_of_getElem? (i := 196) (by decide +kernel), List.mem_of_getElem? (i := 197) (by decide +kernel)⟩
theorem lw_p7 : lw_okq (⟨"Entitled", "keepAsBest", "(I)V"⟩, 10) := ⟨⟨by decide +kernel, by decide +kernel⟩, List.mem_of_getElem? (i := 16) (by decide +kernel), List.mem_of_getElem? (i := 203) (by decide +kernel), List.mem_of_getElem? (i := 204) (by decide +kernel)⟩
theorem lw_p8 : lw_okq (⟨"Entitled", "give", "(II)V"⟩, 10) := ⟨⟨by decide +kernel, by decide +kernel⟩, List.mem_of_getElem? (i := 16) (by decide +kernel), List.mem_of_getElem? (i := 210) (by decide +kernel), List.mem_of_getElem? (i := 211) (by decide +kernel)⟩
theorem lw_p9 : lw_okq (⟨"Entitled$Entitlement", "serve", "(LEntitled$Install;)V"⟩, 13) := ⟨⟨by decide +kernel, by decide +kernel⟩, List.mem_of_getElem? (i := 71) (by decide +kernel), List.mem_of_getElem? (i := 214) (by decide +kernel), List.mem_of_getElem? (i := 215) (by decide +kernel)⟩
theorem lw_p10 : lw_okq (⟨"Entitled$Entitlement", "changeNeed", "(LEntitled$Install;I)V"⟩, 13) := ⟨⟨by decide +kernel, by decide +kernel⟩, List.mem_of_getElem? (i := 71) (by decide +kernel), List.mem_of_getElem? (i := 218) (by decide +kernel), List.mem_of_getElem? (i := 219) (by decide +kernel)⟩
theorem lw_p11 : lw_okq (⟨"Entitled$Entitlement", "unitsOfHolder", "(I)I"⟩, 13) := ⟨⟨by decide +kernel, by decide +kernel⟩, List.mem_of_getElem? (i := 71) (by decide +kernel), List.mem_of_getElem? (i := 226) (by decide +kernel), List.mem_of_getElem? (i := 227) (by decide +kernel)⟩
theorem lw_p12 : lw_okq (⟨"Entitled$Entitlement", "missing", "()I"⟩, 13) := ⟨⟨by decide +kernel, by decide +kernel⟩, List.mem_of_getElem? (i := 71) (by decide +kernel), List.mem_of_getElem? (i := 230) (by decide +kernel), List.mem_of_getElem? (i := 231) (by decide +kernel)⟩
theorem lw_p13 : lw_okq (⟨"Entitled", "takeBack", "(II)V"⟩, 10) := ⟨⟨by decide +kernel, by decide +kernel⟩, List.mem_of_getElem? (i := 16) (by decide +kernel), List.mem_of_getElem? (i := 234) (by decide +kernel), List.mem_of_getElem? (i := 235) (by decide +kernel)⟩
theorem lw_p14 : lw_okq (⟨"Entitled$Entitlement", "release", "(LEntitled$Install;)V"⟩, 13) := ⟨⟨by decide +kernel, by decide +kernel⟩, List.mem_of_getElem? (i := 71) (by decide +kernel), List.mem_of_getElem? (i := 238) (by decide +kernel), List.mem_of_getElem? (i := 239) (by decide +kernel)⟩
theorem lw_p15 : lw_okq (⟨"java/lang/Throwable", "fillInStackTrace", "(I)Ljava/lang/Throwable;"⟩, 6) := ⟨⟨by decide +kernel, by decide +kernel⟩, List.mem_of_getElem? (i := 304) (by decide +kernel), List.mem_of_getElem? (i := 302) (by decide +kernel), List.mem_of_getElem? (i := 303) (by decide +kernel)⟩
def lw_privs_1 : List (MethodName × Nat) := [(⟨"Entitled", "findCover", "()I"⟩, 10), (⟨"Entitled", "clearSearch", "(I)V"⟩, 10), (⟨"Entitled", "clearNeeds", "()V"⟩, 10), (⟨"Entitled$Entitlement", "clearNeed", "()V"⟩, 13), (⟨"Entitled", "countFitting", "(LEntitled$Install;)I"⟩, 10), (⟨"Entitled$Entitlement", "fits", "(LEntitled$Install;)Z"⟩, 13), (⟨"Entitled$Entitlement", "misfit", "(LEntitled$Install;)C"⟩, 13), (⟨"Entitled", "keepAsBest", "(I)V"⟩, 10), (⟨"Entitled", "give", "(II)V"⟩, 10), (⟨"Entitled$Entitlement", "serve", "(LEntitled$Install;)V"⟩, 13), (⟨"Entitled$Entitlement", "changeNeed", "(LEntitled$Install;I)V"⟩, 13), (⟨"Entitled$Entitlement", "unitsOfHolder", "(I)I"⟩, 13), (⟨"Entitled$Entitlement", "missing", "()I"⟩, 13), (⟨"Entitled", "takeBack", "(II)V"⟩, 10), (⟨"Entitled$Entitlement", "release", "(LEntitled$Install;)V"⟩, 13), (⟨"java/lang/Throwable", "fillInStackTrace", "(I)Ljava/lang/Throwable;"⟩, 6)]
theorem lw_r1 : ∀ q ∈ lw_privs_1, lw_okq q := List.forall_mem_cons.mpr ⟨lw_p0, List.forall_mem_cons.mpr ⟨lw_p1, List.forall_mem_cons.mpr ⟨lw_p2, List.forall_mem_cons.mpr ⟨lw_p3, List.forall_mem_cons.mpr ⟨lw_p4, List.forall_mem_cons.mpr ⟨lw_p5, List.forall_mem_cons.mpr ⟨lw_p6, List.forall_mem_cons.mpr ⟨lw_p7, List.forall_mem_cons.mpr ⟨lw_p8, List.forall_mem_cons.mpr ⟨lw_p9, List.forall_mem_cons.mpr ⟨lw_p10, List.forall_mem_cons.mpr ⟨lw_p11, List.forall_mem_cons.mpr ⟨lw_p12, List.forall_mem_cons.mpr ⟨lw_p13, List.forall_mem_cons.mpr ⟨lw_p14, List.forall_mem_cons.mpr ⟨lw_p15, fun _ h => absurd h List.not_mem_nil⟩⟩⟩⟩⟩⟩⟩⟩⟩⟩⟩⟩⟩⟩⟩⟩
theorem lw_p16 : lw_okq (⟨"Entitled$Install", "fill", "(IIIIIII)V"⟩, 8) := ⟨⟨by decide +kernel, by decide +kernel⟩, List.mem_of_getElem? (i := 25) (by decide +kernel), List.mem_of_getElem? (i := 350) (by decide +kernel), List.mem_of_getElem? (i := 351) (by decide +kernel)⟩
theorem lw_p17 : lw_okq (⟨"Entitled", "installAt", "(I)LEntitled$Install;"⟩, 10) := ⟨⟨by decide +kernel, by decide +kernel⟩, List.mem_of_getElem? (i := 16) (by decide +kernel), List.mem_of_getElem? (i := 362) (by decide +kernel), List.mem_of_getElem? (i := 363) (by decide +kernel)⟩
theorem lw_p18 : lw_okq (⟨"Entitled$Entitlement", "fill", "(IIICII)V"⟩, 13) := ⟨⟨by decide +kernel, by decide +kernel⟩, List.mem_of_getElem? (i := 71) (by decide +kernel), List.mem_of_getElem? (i := 419) (by decide +kernel), List.mem_of_getElem? (i := 420) (by decide +kernel)⟩
theorem lw_p19 : lw_okq (⟨"Entitled", "entitlementAt", "(I)LEntitled$Entitlement;"⟩, 10) := ⟨⟨by decide +kernel, by decide +kernel⟩, List.mem_of_getElem? (i := 16) (by decide +kernel), List.mem_of_getElem? (i := 430) (by decide +kernel), List.mem_of_getElem? (i := 431) (by decide +kernel)⟩
theorem lw_p20 : lw_okq (⟨"Entitled$Entitlement", "countRights", "()I"⟩, 13) := ⟨⟨by decide +kernel, by decide +kernel⟩, List.mem_of_getElem? (i := 71) (by decide +kernel), List.mem_of_getElem? (i := 435) (by decide +kernel), List.mem_of_getElem? (i := 436) (by decide +kernel)⟩
theorem lw_p21 : lw_okq (⟨"Entitled", "countGiven", "()I"⟩, 10) := ⟨⟨by decide +kernel, by decide +kernel⟩, List.mem_of_getElem? (i := 16) (by decide +kernel), List.mem_of_getElem? (i := 545) (by decide +kernel), List.mem_of_getElem? (i := 546) (by decide +kernel)⟩
theorem lw_p22 : lw_okq (⟨"Entitled", "isAllowed", "()Z"⟩, 10) := ⟨⟨by decide +kernel, by decide +kernel⟩, List.mem_of_getElem? (i := 16) (by decide +kernel), List.mem_of_getElem? (i := 549) (by decide +kernel), List.mem_of_getElem? (i := 550) (by decide +kernel)⟩
theorem lw_p23 : lw_okq (⟨"Entitled", "entitlementByCover", "(I)I"⟩, 10) := ⟨⟨by decide +kernel, by decide +kernel⟩, List.mem_of_getElem? (i := 16) (by decide +kernel), List.mem_of_getElem? (i := 560) (by decide +kernel), List.mem_of_getElem? (i := 561) (by decide +kernel)⟩
theorem lw_p24 : lw_okq (⟨"Entitled", "serveByBest", "()V"⟩, 10) := ⟨⟨by decide +kernel, by decide +kernel⟩, List.mem_of_getElem? (i := 16) (by decide +kernel), List.mem_of_getElem? (i := 580) (by decide +kernel), List.mem_of_getElem? (i := 581) (by decide +kernel)⟩
theorem lw_p25 : lw_okq (⟨"Entitled", "checkAllCanBeCovered", "()V"⟩, 10) := ⟨⟨by decide +kernel, by decide +kernel⟩, List.mem_of_getElem? (i := 16) (by decide +kernel), List.mem_of_getElem? (i := 599) (by decide +kernel), List.mem_of_getElem? (i := 600) (by decide +kernel)⟩
theorem lw_p26 : lw_okq (⟨"Entitled", "findPurchase", "()I"⟩, 10) := ⟨⟨by decide +kernel, by decide +kernel⟩, List.mem_of_getElem? (i := 16) (by decide +kernel), List.mem_of_getElem? (i := 604) (by decide +kernel), List.mem_of_getElem? (i := 605) (by decide +kernel)⟩
theorem lw_p27 : lw_okq (⟨"Entitled$Entitlement", "missingPrice", "()I"⟩, 13) := ⟨⟨by decide +kernel, by decide +kernel⟩, List.mem_of_getElem? (i := 71) (by decide +kernel), List.mem_of_getElem? (i := 612) (by decide +kernel), List.mem_of_getElem? (i := 613) (by decide +kernel)⟩
theorem lw_p28 : lw_okq (⟨"Entitled", "sumOfMissing", "()I"⟩, 10) := ⟨⟨by decide +kernel, by decide +kernel⟩, List.mem_of_getElem? (i := 16) (by decide +kernel), List.mem_of_getElem? (i := 627) (by decide +kernel), List.mem_of_getElem? (i := 628) (by decide +kernel)⟩
theorem lw_p29 : lw_okq (⟨"EntitledModel", "fail", "(I)I"⟩, 28) := ⟨⟨by decide +kernel, by decide +kernel⟩, List.mem_of_getElem? (i := 653) (by decide +kernel), List.mem_of_getElem? (i := 757) (by decide +kernel), List.mem_of_getElem? (i := 758) (by decide +kernel)⟩
theorem lw_p30 : lw_okq (⟨"EntitledModel", "noInstall", "(I)Z"⟩, 28) := ⟨⟨by decide +kernel, by decide +kernel⟩, List.mem_of_getElem? (i := 653) (by decide +kernel), List.mem_of_getElem? (i := 765) (by decide +kernel), List.mem_of_getElem? (i := 766) (by decide +kernel)⟩
theorem lw_p31 : lw_okq (⟨"EntitledModel", "noEntitlement", "(I)Z"⟩, 28) := ⟨⟨by decide +kernel, by decide +kernel⟩, List.mem_of_getElem? (i := 653) (by decide +kernel), List.mem_of_getElem? (i := 798) (by decide +kernel), List.mem_of_getElem? (i := 799) (by decide +kernel)⟩
def lw_privs_2 : List (MethodName × Nat) := [(⟨"Entitled$Install", "fill", "(IIIIIII)V"⟩, 8), (⟨"Entitled", "installAt", "(I)LEntitled$Install;"⟩, 10), (⟨"Entitled$Entitlement", "fill", "(IIICII)V"⟩, 13), (⟨"Entitled", "entitlementAt", "(I)LEntitled$Entitlement;"⟩, 10), (⟨"Entitled$Entitlement", "countRights", "()I"⟩, 13), (⟨"Entitled", "countGiven", "()I"⟩, 10), (⟨"Entitled", "isAllowed", "()Z"⟩, 10), (⟨"Entitled", "entitlementByCover", "(I)I"⟩, 10), (⟨"Entitled", "serveByBest", "()V"⟩, 10), (⟨"Entitled", "checkAllCanBeCovered", "()V"⟩, 10), (⟨"Entitled", "findPurchase", "()I"⟩, 10), (⟨"Entitled$Entitlement", "missingPrice", "()I"⟩, 13), (⟨"Entitled", "sumOfMissing", "()I"⟩, 10), (⟨"EntitledModel", "fail", "(I)I"⟩, 28), (⟨"EntitledModel", "noInstall", "(I)Z"⟩, 28), (⟨"EntitledModel", "noEntitlement", "(I)Z"⟩, 28)]
theorem lw_r2 : ∀ q ∈ lw_privs_2, lw_okq q := List.forall_mem_cons.mpr ⟨lw_p16, List.forall_mem_cons.mpr ⟨lw_p17, List.forall_mem_cons.mpr ⟨lw_p18, List.forall_mem_cons.mpr ⟨lw_p19, List.forall_mem_cons.mpr ⟨lw_p20, List.forall_mem_cons.mpr ⟨lw_p21, List.forall_mem_cons.mpr ⟨lw_p22, List.forall_mem_cons.mpr ⟨lw_p23, List.forall_mem_cons.mpr ⟨lw_p24, List.forall_mem_cons.mpr ⟨lw_p25, List.forall_mem_cons.mpr ⟨lw_p26, List.forall_mem_cons.mpr ⟨lw_p27, List.forall_mem_cons.mpr ⟨lw_p28, List.forall_mem_cons.mpr ⟨lw_p29, List.forall_mem_cons.mpr ⟨lw_p30, List.forall_mem_cons.mpr ⟨lw_p31, fun _ h => absurd h List.not_mem_nil⟩⟩⟩⟩⟩⟩⟩⟩⟩⟩⟩⟩⟩⟩⟩⟩
theorem lw_p32 : lw_okq (⟨"EntitledModel", "reasonOf", "(II)C"⟩, 28) := ⟨⟨by decide +kernel, by decide +kernel⟩, List.mem_of_getElem? (i := 653) (by decide +kernel), List.mem_of_getElem? (i := 822) (by decide +kernel), List.mem_of_getElem? (i := 823) (by decide +kernel)⟩
theorem lw_p33 : lw_okq (⟨"EntitledModel", "fits", "(I)I"⟩, 28) := ⟨⟨by decide +kernel, by decide +kernel⟩, List.mem_of_getElem? (i := 653) (by decide +kernel), List.mem_of_getElem? (i := 833) (by decide +kernel), List.mem_of_getElem? (i := 834) (by decide +kernel)⟩
theorem lw_p34 : lw_okq (⟨"EntitledModel", "fits", "(II)Z"⟩, 28) := ⟨⟨by decide +kernel, by decide +kernel⟩, List.mem_of_getElem? (i := 653) (by decide +kernel), List.mem_of_getElem? (i := 837) (by decide +kernel), List.mem_of_getElem? (i := 838) (by decide +kernel)⟩
theorem lw_p35 : lw_okq (⟨"EntitledModel", "needs", "(I)I"⟩, 28) := ⟨⟨by decide +kernel, by decide +kernel⟩, List.mem_of_getElem? (i := 653) (by decide +kernel), List.mem_of_getElem? (i := 849) (by decide +kernel), List.mem_of_getElem? (i := 850) (by decide +kernel)⟩
theorem lw_p36 : lw_okq (⟨"EntitledModel", "greatest", "(IIZ)I"⟩, 28) := ⟨⟨by decide +kernel, by decide +kernel⟩, List.mem_of_getElem? (i := 653) (by decide +kernel), List.mem_of_getElem? (i := 853) (by decide +kernel), List.mem_of_getElem? (i := 854) (by decide +kernel)⟩
theorem lw_p37 : lw_okq (⟨"EntitledModel", "cover", "()V"⟩, 28) := ⟨⟨by decide +kernel, by decide +kernel⟩, List.mem_of_getElem? (i := 653) (by decide +kernel), List.mem_of_getElem? (i := 861) (by decide +kernel), List.mem_of_getElem? (i := 862) (by decide +kernel)⟩
theorem lw_p38 : lw_okq (⟨"EntitledModel", "begin", "()V"⟩, 28) := ⟨⟨by decide +kernel, by decide +kernel⟩, List.mem_of_getElem? (i := 653) (by decide +kernel), List.mem_of_getElem? (i := 865) (by decide +kernel), List.mem_of_getElem? (i := 866) (by decide +kernel)⟩
theorem lw_p39 : lw_okq (⟨"EntitledModel", "covers", "(III)V"⟩, 28) := ⟨⟨by decide +kernel, by decide +kernel⟩, List.mem_of_getElem? (i := 653) (by decide +kernel), List.mem_of_getElem? (i := 869) (by decide +kernel), List.mem_of_getElem? (i := 870) (by decide +kernel)⟩
theorem lw_p40 : lw_okq (⟨"EntitledModel", "take", "()V"⟩, 28) := ⟨⟨by decide +kernel, by decide +kernel⟩, List.mem_of_getElem? (i := 653) (by decide +kernel), List.mem_of_getElem? (i := 873) (by decide +kernel), List.mem_of_getElem? (i := 874) (by decide +kernel)⟩
theorem lw_p41 : lw_okq (⟨"EntitledModel", "isAllowed", "(I)Z"⟩, 28) := ⟨⟨by decide +kernel, by decide +kernel⟩, List.mem_of_getElem? (i := 653) (by decide +kernel), List.mem_of_getElem? (i := 877) (by decide +kernel), List.mem_of_getElem? (i := 878) (by decide +kernel)⟩
theorem lw_p42 : lw_okq (⟨"EntitledModel", "put", "()V"⟩, 28) := ⟨⟨by decide +kernel, by decide +kernel⟩, List.mem_of_getElem? (i := 653) (by decide +kernel), List.mem_of_getElem? (i := 881) (by decide +kernel), List.mem_of_getElem? (i := 882) (by decide +kernel)⟩
theorem lw_p43 : lw_okq (⟨"EntitledModel", "noPurchase", "(I)Z"⟩, 28) := ⟨⟨by decide +kernel, by decide +kernel⟩, List.mem_of_getElem? (i := 653) (by decide +kernel), List.mem_of_getElem? (i := 910) (by decide +kernel), List.mem_of_getElem? (i := 911) (by decide +kernel)⟩
theorem lw_p44 : lw_okq (⟨"EntitledModel", "buys", "(I)V"⟩, 28) := ⟨⟨by decide +kernel, by decide +kernel⟩, List.mem_of_getElem? (i := 653) (by decide +kernel), List.mem_of_getElem? (i := 914) (by decide +kernel), List.mem_of_getElem? (i := 915) (by decide +kernel)⟩
theorem lw_p45 : lw_okq (⟨"EntitledModel", "costs", "()I"⟩, 28) := ⟨⟨by decide +kernel, by decide +kernel⟩, List.mem_of_getElem? (i := 653) (by decide +kernel), List.mem_of_getElem? (i := 918) (by decide +kernel), List.mem_of_getElem? (i := 919) (by decide +kernel)⟩
theorem lw_p46 : lw_okq (⟨"EntitledModel", "beyond", "(I)I"⟩, 28) := ⟨⟨by decide +kernel, by decide +kernel⟩, List.mem_of_getElem? (i := 653) (by decide +kernel), List.mem_of_getElem? (i := 922) (by decide +kernel), List.mem_of_getElem? (i := 923) (by decide +kernel)⟩
def lw_privs_3 : List (MethodName × Nat) := [(⟨"EntitledModel", "reasonOf", "(II)C"⟩, 28), (⟨"EntitledModel", "fits", "(I)I"⟩, 28), (⟨"EntitledModel", "fits", "(II)Z"⟩, 28), (⟨"EntitledModel", "needs", "(I)I"⟩, 28), (⟨"EntitledModel", "greatest", "(IIZ)I"⟩, 28), (⟨"EntitledModel", "cover", "()V"⟩, 28), (⟨"EntitledModel", "begin", "()V"⟩, 28), (⟨"EntitledModel", "covers", "(III)V"⟩, 28), (⟨"EntitledModel", "take", "()V"⟩, 28), (⟨"EntitledModel", "isAllowed", "(I)Z"⟩, 28), (⟨"EntitledModel", "put", "()V"⟩, 28), (⟨"EntitledModel", "noPurchase", "(I)Z"⟩, 28), (⟨"EntitledModel", "buys", "(I)V"⟩, 28), (⟨"EntitledModel", "costs", "()I"⟩, 28), (⟨"EntitledModel", "beyond", "(I)I"⟩, 28)]
theorem lw_r3 : ∀ q ∈ lw_privs_3, lw_okq q := List.forall_mem_cons.mpr ⟨lw_p32, List.forall_mem_cons.mpr ⟨lw_p33, List.forall_mem_cons.mpr ⟨lw_p34, List.forall_mem_cons.mpr ⟨lw_p35, List.forall_mem_cons.mpr ⟨lw_p36, List.forall_mem_cons.mpr ⟨lw_p37, List.forall_mem_cons.mpr ⟨lw_p38, List.forall_mem_cons.mpr ⟨lw_p39, List.forall_mem_cons.mpr ⟨lw_p40, List.forall_mem_cons.mpr ⟨lw_p41, List.forall_mem_cons.mpr ⟨lw_p42, List.forall_mem_cons.mpr ⟨lw_p43, List.forall_mem_cons.mpr ⟨lw_p44, List.forall_mem_cons.mpr ⟨lw_p45, List.forall_mem_cons.mpr ⟨lw_p46, fun _ h => absurd h List.not_mem_nil⟩⟩⟩⟩⟩⟩⟩⟩⟩⟩⟩⟩⟩⟩⟩
def lw_privs : List (MethodName × Nat) := lw_privs_1 ++ (lw_privs_2 ++ (lw_privs_3))
def lw_tbl : List Cond := k2_sels lw_privs ++ tables_1
theorem lw_privs_ok : ∀ q ∈ lw_privs, lw_okq q := by
  show ∀ q ∈ lw_privs_1 ++ (lw_privs_2 ++ (lw_privs_3)), lw_okq q
  exact List.forall_mem_append.mpr ⟨lw_r1, List.forall_mem_append.mpr ⟨lw_r2, lw_r3⟩⟩
/-- the streams that the claim lets the run draw from -/
abbrev lw_cs : List Choice := [Jvm.Choice.named "NaN.bits"]
theorem lw_bits : nanBits ∈ lw_cs := by first | decide | exact List.mem_cons_self | simp [lw_cs, nanBits]
-- ===== end of PART A; then your names; then what follows =====
end
section
/-! ===== BEGIN words of one list among another's, by their places ===== -/
theorem goodIn_r {big : List Cond} (ws : List Cond) (ps : List Nat) (hp : ws = ps.filterMap (fun i => big[i]?)) (h : ws.all goodWord = true) : GoodIn big ws := by
  intro w hw
  have h1 := List.all_eq_true.mp h w hw
  rw [hp] at hw
  obtain ⟨i, -, hi⟩ := List.mem_filterMap.mp hw
  have hm : w ∈ big := by first | exact List.mem_of_getElem? hi | exact List.getElem?_mem hi
  exact ⟨hm, good_of_word h1⟩
theorem goodIn_app {big a b : List Cond} (ha : GoodIn big a) (hb : GoodIn big b) : GoodIn big (a ++ b) := fun w h => (List.mem_append.mp h).elim (ha w) (hb w)
theorem goodIn_ca {big a b : List Cond} {c : Cond} (ha : GoodIn big (c :: a)) (hb : GoodIn big b) : GoodIn big (c :: (a ++ b)) := fun w h => (List.mem_cons.mp h).elim (fun e => ha w (List.mem_cons.mpr (Or.inl e))) (fun h => (List.mem_append.mp h).elim (fun h => ha w (List.mem_cons.mpr (Or.inr h))) (hb w))
theorem goodIn_sub {big ws : List Cond} (hm : ∀ w ∈ ws, w ∈ big) (h : ws.all goodWord = true) : GoodIn big ws := fun w hw => ⟨hm w hw, good_of_word (List.all_eq_true.mp h w hw)⟩
/-! ===== END ===== -/

/-! ===== BEGIN exceptions that leave a method, and their catching by the caller (launches without stack traces) ===== -/
section VXA
/-! The laws vx_back, vx_callV, vx_callS, vx_callSW, vx_throw0, vx_throwS follow proofs of the library, with one case more: JvmDerived/Free/Laws.lean (Back.of_free), Shelf42/LK1.lean (callV, callS), Shelf/KitTraced.lean (throwNew0V, throwNewS). -/
/-- where a method has thrown q: the class by its name, the cell, what was written, the world -/
def vx_T (XC : String → State → State → Prop) (st : State) (q : Addr) (t : State) (mc ms : Nat) (free : Addr → Prop) : Prop :=
  ∃ (E : String) (ce : Cell) (L : List Loc), XC E st t ∧ t.heap[q]? = some ce ∧ ce.vm = .none ∧ st.vm.findClass E = some ce.cls ∧ st.WarmedH t.vm ∧ st.sameButNew ({ t with vm := st.vm } : State) L mc ms ∧ ∀ z ∈ L, free z.base
def vx_Q (Qc : Array Value → State → Outcome → State → Prop) (XC : String → State → State → Prop) (mc ms : Nat) (free : Addr → Prop) : Array Value → State → Outcome → State → Prop := fun a st o t =>
  (Qc a st o t ∧ ∃ L, FrameEnd st o t L mc ms ∧ ∀ q ∈ L, free q.base) ∨ ∃ q, o = .threw q ∧ vx_T XC st q t mc ms free
/-- a callee that returns or throws -/
def vx_Met (l : Launch) (y : MethodName) (ws : List Cond) (rm : Room) (Pc : Array Value → State → Prop) (Qc : Array Value → State → Outcome → State → Prop) (XC : String → State → State → Prop) (mc ms : Nat) (free : Addr → Prop) : Prop :=
  MetFree l y (headSpec ws rm) Pc (fun _ _ _ _ _ => True) (vx_Q Qc XC mc ms free)
def vx_Post (XC : String → State → State → Prop) (mc ms : Nat) (free : Addr → Prop) : Pt → Array Value → Addr → Pt → Prop := fun A a q B =>
  ∃ (g : JFrame) (mk : MethodId) (t : State) (L : List Loc) (E : String) (ce : Cell), B.U.heap = t.heap ∧ B.U.vm = t.vm ∧ XC E (A.U.calling g mk a) t ∧ t.heap[q]? = some ce ∧ ce.vm = .none ∧ A.U.vm.findClass E = some ce.cls ∧ B.locs = A.locs ++ L ∧ (∀ z ∈ L, free z.base) ∧ B.cells = A.cells + mc ∧ B.slots = A.slots + ms
def vx_Back (l : Launch) (R : Room) (p : Program) (e : Env) (below : List Frame) (s : State) (sargs : Array Value) (y : MethodName) (len W9 : Nat)
    (Pre : Pt → Array Value → Prop) (Post : Pt → Array Value → Option Value → Pt → Prop) (PostX : Pt → Array Value → Addr → Pt → Prop) : Prop :=
  ∀ (m : MethodId) (meth : Method) (c : Code) (A : Pt) (g : JFrame) (ig : Instr) (mk : MethodId) (a : Array Value),
    Stand p l e R s m sargs below meth c A.U A.locs A.cells A.slots → g.method = m → g.locals.size = c.maxLocals → decode c.code g.pc = .ok (ig, len) →
    2 * g.monitorRoom + (g.stack.map fun v => v.category).sum ≤ W9 → A.U.methodNamed? y = some mk → Pre A a →
    (∃ (v : Option Value) (B : Pt), Stand p l e R s m sargs below meth c B.U B.locs B.cells B.slots ∧ Post A a v B ∧
      Steps p.tables e below (doInvoke e (A.U.setTop g) [] mk a).1 (B.U.setTop { g with pc := g.pc + len, stack := v.toList ++ g.stack })) ∨
    (∃ (q : Addr) (B : Pt), Stand p l e R s m sargs below meth c B.U B.locs B.cells B.slots ∧ PostX A a q B ∧
      Steps p.tables e below (doInvoke e (A.U.setTop g) [] mk a).1 ((B.U.setTop g).pushFrame (.throwing q)))
section Payer
variable {l : Launch} {R : Room} {p : Program} {e : Env} {below : List Frame} {s : State} {sargs : Array Value} {y : MethodName} {len W9 : Nat}
theorem vx_back {ws : List Cond} {rm : Room} {Pc : Array Value → State → Prop} {Qc : Array Value → State → Outcome → State → Prop} {XC : String → State → State → Prop} {mc ms : Nat} {free : Addr → Prop} {bytes : ByteArray} {maxL : Nat} {ret : Option FieldType}
    (hM : vx_Met l y ws rm Pc Qc XC mc ms free) (hblind : FrameBlind Pc) (hrc : rm.cells = mc) (hrs : rm.slots = ms)
    (hframes : rm.frames + 1 ≤ R.frames) (hlocals : W9 + (maxL + 11) + rm.locals ≤ R.locals)
    (hws : ∀ w ∈ ws, ∀ a' U, s.WarmedH U.vm → w.before a' U = true) (hcode : Cond.code y bytes maxL ret ∈ ws) (hinit : ∀ a' U, s.WarmedH U.vm → (Cond.initialized y.cls).before a' U = true) :
    vx_Back l R p e below s sargs y len W9 (PreOf R mc ms Pc) (PostOf Qc mc ms free) (vx_Post XC mc ms free) := by
  intro m meth c A g ig mk a X hg hsize hdg hW hn hp
  have h1 : (headSpec ws rm).pre.before a A.U = true := atoms_intro fun w hw => hws w hw _ _ X.warmed
  have h2 : (Cond.code y bytes maxL ret).before a A.U = true := hws _ hcode _ _ X.warmed
  have h3 : (Cond.initialized y.cls).before a A.U = true := hinit _ _ X.warmed
  have h4 : A.cells + (headSpec ws rm).room.cells ≤ R.cells := by rw [show (headSpec ws rm).room.cells = mc from hrc]; exact hp.1
  have h5 : A.slots + (headSpec ws rm).room.slots ≤ R.slots := by rw [show (headSpec ws rm).room.slots = ms from hrs]; exact hp.2.1
  have hPc : Pc a (A.U.calling g mk a) := hblind _ _ _ _ hp.2.2
  obtain ⟨U, Ls, c0, s0⟩ := A
  dsimp only [Pt.U, Pt.locs, Pt.cells, Pt.slots] at h1 h2 h3 h4 h5 X hn hPc ⊢
  obtain ⟨methY, cY, hmY, hcY, -, hlY, -, -, -, -⟩ := Cond.code_spec hn h2
  obtain ⟨kY, hkY, -⟩ := className_of_methodNamed hn
  have hinitY : kY.init = .initialized := Cond.initialized_spec (findClass_of_methodNamed hn) hkY h3
  have h : At U g.method c below := by rw [hg]; exact X.here
  have hlocals9 : W9 + (maxL + 11) + (headSpec ws rm).room.locals ≤ R.locals := hlocals
  have happ : (headSpec ws rm).appliesLoose y e.platform (U.calling g mk a) = true :=
    Spec.appliesLoose_calling (g := g) h hdg hn hkY hinitY
      (X.room_calling (g := g) (R' := (headSpec ws rm).room) hsize hmY hcY hframes (by rw [hlY]; omega) h4 h5) h1
  obtain ⟨mid, hmid⟩ := h.above
  have hfr : (U.setTop g).frames = (.java g :: mid) ++ below := by rw [State.frames_setTop' g h.top, hmid]; rfl
  obtain ⟨o, s₂, hsteps, -, hend, hq⟩ := Steps.callFree hM p X.admits X.cas X.clock (acts := []) hfr happ hPc trivial
  have hq' : vx_Q Qc XC mc ms free a (U.calling g mk a) o s₂ := hq
  rw [State.frames_setTop' g h.top] at hend
  obtain ⟨g₀, hg0⟩ := Option.isSome_iff_exists.mp h.top
  obtain ⟨r, hr⟩ := State.topJava?_eq_some.mp hg0
  have hr' : (({ U with heap := s₂.heap, slotsUsed := s₂.slotsUsed } : State).setVm s₂.vm).frames = .java g₀ :: r := hr
  rcases hq' with ⟨hqc, L, hfe, hL⟩ | ⟨q, rfl, E, ce, L, hx, hce, hcv, hcl, hW₂, hsm, hL⟩
  · obtain ⟨⟨v, rfl⟩, hW₂, e2, q2, q3, q4, q5, q6⟩ := id hfe
    have e3 : s₂ = ({ (U.calling g mk a).setFrames s₂.frames with heap := s₂.heap, slotsUsed := s₂.slotsUsed } : State).setVm s₂.vm := by
      have : s₂ = ({ s₂ with vm := (U.calling g mk a).vm } : State).setVm s₂.vm := rfl
      rw [e2] at this
      exact this
    obtain ⟨c₂, i₂, len₂, hc₂, hd₂, hf₂⟩ := hend
    have hW' : U.WarmedH s₂.vm := hW₂
    have hcc : c₂ = c := by
      have h1 : s₂.code? g.method = U.code? g.method := by
        rw [State.code?_eq, State.code?_eq, hW'.alike.method?]
      exact Option.some.inj (hc₂.symm.trans (h1.trans h.code))
    subst hcc
    have hlen : len₂ = len := by rw [hdg] at hd₂; cases hd₂; rfl
    subst hlen
    have hs₂ : s₂ = (({ U with heap := s₂.heap, slotsUsed := s₂.slotsUsed } : State).setVm s₂.vm).setTop { g with pc := g.pc + len₂, stack := v.toList ++ g.stack } := by
      refine e3.trans ?_
      rw [hf₂, State.calling_eq h.top, State.setFrames_setFrames, State.setTop_of_frames _ hr', hr]
      rfl
    have hsame : U.sameButNew ({ U with heap := s₂.heap, slotsUsed := s₂.slotsUsed } : State) L mc ms := by
      refine ⟨?_, q2, q3, q4, q5, q6⟩
      obtain ⟨t, ht, -⟩ := State.frames_cons hr
      show ({ U with heap := s₂.heap, slotsUsed := s₂.slotsUsed } : State) = { U.setFrames U.frames with heap := s₂.heap, slotsUsed := s₂.slotsUsed }
      rw [State.setFrames_self ht]
    subst hg
    refine Or.inl ⟨v, ⟨(({ U with heap := s₂.heap, slotsUsed := s₂.slotsUsed } : State).setVm s₂.vm), Ls ++ L, c0 + mc, s0 + ms⟩,
      ⟨X.admits, X.cas, X.clock, X.frames, X.room, X.hears, X.method, X.code, (X.here.setHeapUsed s₂.heap s₂.slotsUsed).setVm hW'.alike, X.tail, State.WarmedH.trans X.warmed hW', X.limits, X.bytes, X.same.trans (hsame.setVm s.vm)⟩,
      ⟨g, mk, s₂, L, rfl, rfl, hqc, rfl, hL, rfl, rfl⟩, ?_⟩
    show Steps p.tables e below _ ((({ U with heap := s₂.heap, slotsUsed := s₂.slotsUsed } : State).setVm s₂.vm).setTop { g with pc := g.pc + len₂, stack := v.toList ++ g.stack })
    rw [← hs₂]
    exact hsteps
  · obtain ⟨e2, q2, q3, q4, q5, q6⟩ := id hsm
    have e3 : s₂ = ({ (U.calling g mk a).setFrames s₂.frames with heap := s₂.heap, slotsUsed := s₂.slotsUsed } : State).setVm s₂.vm := by
      have : s₂ = ({ s₂ with vm := (U.calling g mk a).vm } : State).setVm s₂.vm := rfl
      rw [e2] at this
      exact this
    have hf₂ : s₂.frames = .throwing q :: .java g :: U.frames.tail := hend
    have hW' : U.WarmedH s₂.vm := hW₂
    have hs₂ : s₂ = ((({ U with heap := s₂.heap, slotsUsed := s₂.slotsUsed } : State).setVm s₂.vm).setTop g).pushFrame (.throwing q) := by
      refine e3.trans ?_
      rw [hf₂, State.calling_eq h.top, State.setFrames_setFrames, State.pushFrame, State.frames_setTop _ hr', State.setTop_of_frames _ hr', State.setFrames_setFrames, hr]
      rfl
    have hsame : U.sameButNew ({ U with heap := s₂.heap, slotsUsed := s₂.slotsUsed } : State) L mc ms := by
      refine ⟨?_, q2, q3, q4, q5, q6⟩
      obtain ⟨t, ht, -⟩ := State.frames_cons hr
      show ({ U with heap := s₂.heap, slotsUsed := s₂.slotsUsed } : State) = { U.setFrames U.frames with heap := s₂.heap, slotsUsed := s₂.slotsUsed }
      rw [State.setFrames_self ht]
    subst hg
    refine Or.inr ⟨q, ⟨(({ U with heap := s₂.heap, slotsUsed := s₂.slotsUsed } : State).setVm s₂.vm), Ls ++ L, c0 + mc, s0 + ms⟩,
      ⟨X.admits, X.cas, X.clock, X.frames, X.room, X.hears, X.method, X.code, (X.here.setHeapUsed s₂.heap s₂.slotsUsed).setVm hW'.alike, X.tail, State.WarmedH.trans X.warmed hW', X.limits, X.bytes, X.same.trans (hsame.setVm s.vm)⟩,
      ⟨g, mk, s₂, L, E, ce, rfl, rfl, hx, hce, hcv, hcl, rfl, hL, rfl, rfl⟩, ?_⟩
    show Steps p.tables e below _ (((({ U with heap := s₂.heap, slotsUsed := s₂.slotsUsed } : State).setVm s₂.vm).setTop g).pushFrame (.throwing q))
    rw [← hs₂]
    exact hsteps
end Payer
section Calls
variable {p : Program} {l : Launch} {e : Env} {R : Room} {s : State} {m : MethodId} {args : Array Value} {below : List Frame} {meth : Method} {c : Code} {T : State} {locs : List Loc} {cells slots : Nat}
theorem vx_callV (X : Stand p l e R s m args below meth c T locs cells slots) (hexec : p.tables.exec = Jvm.exec) {own C : String} {index : Nat} {y : MethodName} {bytes : ByteArray} {maxL : Nat} {ret : Option FieldType}
    (hown : s.vm.findClass own = some m.cls) (hlink : (Cond.methodLink own index y).before args s = true) (hinst : (Cond.instanceMethod y).before args s = true) (hsel : (Cond.selects C y y).before args s = true)
    (hcode : (Cond.code y bytes maxL ret).before args s = true) (hy : y.cls ≠ "java/lang/invoke/MethodHandle" ∧ y.cls ≠ "java/lang/invoke/VarHandle")
    {W9 : Nat} {Pre : Pt → Array Value → Prop} {Post : Pt → Array Value → Option Value → Pt → Prop} {PostX : Pt → Array Value → Addr → Pt → Prop} (hK : vx_Back l R p e below s args y 3 W9 Pre Post PostX)
    {b : Addr} {cellB : Cell} (hcell : T.heap[b]? = some cellB) (hobj : cellB.vm.isStatics = false) (hcls : s.vm.findClass C = some cellB.cls)
    {g : JFrame} (hg : g.method = m) (hsize : g.locals.size = c.maxLocals) {argsL rest : List Value} (hlen : ∀ sig, parseMethodDescriptor y.desc = some sig → argsL.length = sig.parameters.length)
    (hstack : g.stack = argsL.reverse ++ .ref b :: rest) (hW : 2 * g.monitorRoom + (rest.map fun v => v.category).sum ≤ W9) (hdg : decode c.code g.pc = .ok (.invokevirtual index, 3))
    (hpre : ∀ vm₁, s.WarmedH vm₁ → Pre ⟨T.setVm vm₁, locs, cells, slots⟩ (Value.ref b :: argsL).toArray) :
    (∃ (v : Option Value) (vm₁ : Vm) (B : Pt), s.WarmedH vm₁ ∧ Stand p l e R s m args below meth c B.U B.locs B.cells B.slots ∧ Post ⟨T.setVm vm₁, locs, cells, slots⟩ (Value.ref b :: argsL).toArray v B ∧
      ∀ target, Steps p.tables e below (B.U.setTop { g with pc := g.pc + 3, stack := v.toList ++ rest }) target → Steps p.tables e below (T.setTop g) target) ∨
    (∃ (q : Addr) (vm₁ : Vm) (B : Pt), s.WarmedH vm₁ ∧ Stand p l e R s m args below meth c B.U B.locs B.cells B.slots ∧ PostX ⟨T.setVm vm₁, locs, cells, slots⟩ (Value.ref b :: argsL).toArray q B ∧
      Steps p.tables e below (T.setTop g) ((B.U.setTop { g with stack := rest }).pushFrame (.throwing q))) := by
  obtain ⟨mk, methM, hnamed, hmethM, hstM, habM⟩ := Cond.instanceMethod_spec hinst
  obtain ⟨methM', cM, hmethM', -, -, -, -, -, -, hsigM⟩ := Cond.code_spec hnamed hcode
  cases hmethM.symm.trans hmethM'
  obtain ⟨c2, r2, m2, q1, q2, q3, q4, kP, hkP, hkPi⟩ := Cond.selects_spec hsel
  cases hcls.symm.trans q1
  cases (State.methodFound?_of_named hnamed hy).symm.trans q2
  cases hnamed.symm.trans q3
  have hselP : selectMethod e.platform s.vm cellB.cls mk = .method mk := by rw [Launch.admits_selectMethod X.admits]; exact q4
  obtain ⟨vm₁, X₁, hstep₁⟩ := X.invokevirtual hexec hown hlink hnamed hmethM hstM hkP hkPi hy (a := b) (cell := cellB) hcell
    (fun z h => by rw [h] at hobj; cases hobj) hselP hmethM habM hkP hkPi (g := g) hg (argsL := argsL) (rest := rest) (hlen _ hsigM) hstack hdg
  rcases hK m meth c ⟨T.setVm vm₁, locs, cells, slots⟩ { g with stack := rest } (.invokevirtual index) mk (Value.ref b :: argsL).toArray X₁ hg hsize hdg hW (X₁.named hnamed) (hpre vm₁ X₁.warmed) with ⟨v, B, X', hpost, hsteps⟩ | ⟨q, B, X', hpost, hsteps⟩
  · exact Or.inl ⟨v, vm₁, B, X₁.warmed, X', hpost, fun target h => hstep₁ _ fun acts => by rw [doInvoke_state]; exact hsteps.trans h⟩
  · exact Or.inr ⟨q, vm₁, B, X₁.warmed, X', hpost, hstep₁ _ fun acts => by rw [doInvoke_state]; exact hsteps⟩
theorem vx_callS (X : Stand p l e R s m args below meth c T locs cells slots) (hexec : p.tables.exec = Jvm.exec) {own : String} {index : Nat} {y : MethodName} {bytes : ByteArray} {maxL : Nat} {ret : Option FieldType}
    (hown : s.vm.findClass own = some m.cls) (hlink : (Cond.methodLink own index y).before args s = true) (hstat : (Cond.static y).before args s = true) (hinit : (Cond.initialized y.cls).before args s = true)
    (hcode : (Cond.code y bytes maxL ret).before args s = true) (hy : y.cls ≠ "java/lang/invoke/MethodHandle" ∧ y.cls ≠ "java/lang/invoke/VarHandle")
    {W9 : Nat} {Pre : Pt → Array Value → Prop} {Post : Pt → Array Value → Option Value → Pt → Prop} {PostX : Pt → Array Value → Addr → Pt → Prop} (hK : vx_Back l R p e below s args y 3 W9 Pre Post PostX)
    {g : JFrame} (hg : g.method = m) (hsize : g.locals.size = c.maxLocals) {argsL rest : List Value} (hlen : ∀ sig, parseMethodDescriptor y.desc = some sig → argsL.length = sig.parameters.length)
    (hstack : g.stack = argsL.reverse ++ rest) (hW : 2 * g.monitorRoom + (rest.map fun v => v.category).sum ≤ W9) (hdg : decode c.code g.pc = .ok (.invokestatic index, 3))
    (hpre : ∀ vm₁, s.WarmedH vm₁ → Pre ⟨T.setVm vm₁, locs, cells, slots⟩ argsL.toArray) :
    (∃ (v : Option Value) (vm₁ : Vm) (B : Pt), s.WarmedH vm₁ ∧ Stand p l e R s m args below meth c B.U B.locs B.cells B.slots ∧ Post ⟨T.setVm vm₁, locs, cells, slots⟩ argsL.toArray v B ∧
      ∀ target, Steps p.tables e below (B.U.setTop { g with pc := g.pc + 3, stack := v.toList ++ rest }) target → Steps p.tables e below (T.setTop g) target) ∨
    (∃ (q : Addr) (vm₁ : Vm) (B : Pt), s.WarmedH vm₁ ∧ Stand p l e R s m args below meth c B.U B.locs B.cells B.slots ∧ PostX ⟨T.setVm vm₁, locs, cells, slots⟩ argsL.toArray q B ∧
      Steps p.tables e below (T.setTop g) ((B.U.setTop { g with stack := rest }).pushFrame (.throwing q))) := by
  obtain ⟨mk, hnamed⟩ := Cond.code_named hcode
  obtain ⟨methM, cM, hmethM, -, -, -, -, -, -, hsigM⟩ := Cond.code_spec hnamed hcode
  have hstatic : methM.isStatic = true := Cond.static_spec hnamed hmethM hstat
  obtain ⟨kP, hkP, -⟩ := className_of_methodNamed hnamed
  have hinitP : kP.init = .initialized := Cond.initialized_spec (findClass_of_methodNamed hnamed) hkP hinit
  obtain ⟨vm₁, X₁, hstep₁⟩ := X.invokestatic hexec hown hlink hnamed hmethM hstatic hkP hinitP hy (g := g) hg (argsL := argsL) (rest := rest) (hlen _ hsigM) hstack hdg
  rcases hK m meth c ⟨T.setVm vm₁, locs, cells, slots⟩ { g with stack := rest } (.invokestatic index) mk argsL.toArray X₁ hg hsize hdg hW (X₁.named hnamed) (hpre vm₁ X₁.warmed) with ⟨v, B, X', hpost, hsteps⟩ | ⟨q, B, X', hpost, hsteps⟩
  · exact Or.inl ⟨v, vm₁, B, X₁.warmed, X', hpost, fun target h => hstep₁ _ fun acts => by rw [doInvoke_state]; exact hsteps.trans h⟩
  · exact Or.inr ⟨q, vm₁, B, X₁.warmed, X', hpost, hstep₁ _ fun acts => by rw [doInvoke_state]; exact hsteps⟩
end Calls
theorem vx_cls {s : State} {T : State} {vm₁ : Vm} {E : String} {k : ClassId} (hW : s.WarmedH vm₁) (h : (T.setVm vm₁).vm.findClass E = some k) : s.vm.findClass E = some k := by
  have h1 : vm₁.findClass E = some k := h
  rw [hW.alike.findClass] at h1
  exact h1
/-- the method's frame g, with q thrown over it -/
def vx_W (p : Program) (l : Launch) (e : Env) (R : Room) (s : State) (m : MethodId) (args : Array Value) (below : List Frame) (meth : Method) (c : Code) (H : Heap) (locs : List Loc) (cells slots : Nat) (Q : State → Prop) (g : JFrame) (q : Addr) : Prop :=
  ∀ T : State, T.heap = H → Stand p l e R s m args below meth c T locs cells slots → ∃ t, Steps p.tables e below ((T.setTop g).pushFrame (.throwing q)) t ∧ Q t
def vx_Run (p : Program) (l : Launch) (e : Env) (R : Room) (s : State) (m : MethodId) (args : Array Value) (below : List Frame) (meth : Method) (c : Code) (H : Heap) (locs : List Loc) (cells slots mc ms : Nat) (g : JFrame) (rest : List Value) (Qa : State → Outcome → State → Prop) (XC : String → State → State → Prop) (free : Addr → Prop) : Prop :=
  ∀ T : State, T.heap = H → Stand p l e R s m args below meth c T locs cells slots →
    (∃ (v : Option Value) (st₀ t T' : State) (L : List Loc), st₀.heap = H ∧ Stand p l e R s m args below meth c T' (locs ++ L) (cells + mc) (slots + ms) ∧ (∀ q ∈ L, free q.base) ∧ T'.heap = t.heap ∧ T'.vm = t.vm ∧ Qa st₀ (.returned v) t ∧
      Goes p e below T g T' { g with pc := g.pc + 3, stack := v.toList ++ rest }) ∨
    (∃ (q : Addr) (st₀ t T' : State) (L : List Loc) (E : String) (ce : Cell), st₀.heap = H ∧ Stand p l e R s m args below meth c T' (locs ++ L) (cells + mc) (slots + ms) ∧ (∀ z ∈ L, free z.base) ∧ T'.heap = t.heap ∧ T'.vm = t.vm ∧ XC E st₀ t ∧ t.heap[q]? = some ce ∧ ce.vm = .none ∧ s.vm.findClass E = some ce.cls ∧
      Steps p.tables e below (T.setTop g) ((T'.setTop { g with stack := rest }).pushFrame (.throwing q)))
def vx_X {S : Type} (px : S → Prop) (B : String → S → State → Prop) (A : Nat → Prop) : String → State → State → Prop := fun E st t => ∃ u : S, px u ∧ B E u t ∧ va_F A st t
section Runs
variable {p : Program} {l : Launch} {e : Env} {R : Room} {s : State} {m : MethodId} {args : Array Value} {below : List Frame} {meth : Method} {c : Code} {H : Heap} {locs : List Loc} {cells slots : Nat}
variable {y : MethodName} {bytes cc : ByteArray} {maxL nL mc ms n index : Nat} {ret : Option FieldType} {ws : List Cond} {rm : Room} {Pc : Array Value → State → Prop} {Qc : Array Value → State → Outcome → State → Prop} {XC : String → State → State → Prop} {free : Addr → Prop} {Ts : List Cond} {own C : String} {b : Addr} {As rest : List Value} {g : JFrame}
theorem vx_callBack (cb : CallB R s args own index y bytes maxL ret ws rm mc ms n) (hM : vx_Met l y ws rm Pc Qc XC mc ms free) (hbl : FrameBlind Pc) : vx_Back l R p e below s args y 3 8 (PreOf R mc ms Pc) (PostOf Qc mc ms free) (vx_Post XC mc ms free) := by
  obtain ⟨hrc, hrs, hfr, hlo, hws, hcw, -, hini, -⟩ := cb
  exact vx_back (bytes := bytes) (maxL := maxL) (ret := ret) hM hbl hrc hrs hfr hlo hws hcw (fun a' U hW => word_at hW (Or.inl (by first | rfl | simp [Cond.onTables, Cond.keeps, Cond.steady])) hini)
theorem vx_runV (S : CallFix p m c cc nL s args Ts own) (hM : vx_Met l y ws rm Pc Qc XC mc ms free) (cw : CallW R s args own C index y bytes maxL ret ws rm mc ms n) (hp : PreV s H C b Pc As)
    (hg : g.method = m) (hn : As.length = n) (hsize : g.locals.size = nL) (hstack : g.stack = As.reverse ++ .ref b :: rest) (hW : 2 * g.monitorRoom + (rest.map fun v => v.category).sum ≤ 8) (hdg : decode cc g.pc = .ok (.invokevirtual index, 3)) (hf : cells + mc ≤ R.cells ∧ slots + ms ≤ R.slots) :
    vx_Run p l e R s m args below meth c H locs cells slots mc ms g rest (Qc (Value.ref b :: As).toArray) XC free := by
  have hK : vx_Back l R p e below s args y 3 8 (PreOf R mc ms Pc) (PostOf Qc mc ms free) (vx_Post XC mc ms free) := vx_callBack cw.1 hM hp.1
  obtain ⟨⟨-, -, -, -, -, -, hcode, -, hy, hlen, hl⟩, hin, hse⟩ := cw
  obtain ⟨hx, hb, hml, ho, -⟩ := S
  obtain ⟨-, ⟨cellB, hcB, hoB, hclB⟩, hPc⟩ := hp
  intro T hT X
  rcases vx_callV X hx (C := C) (bytes := bytes) (maxL := maxL) (ret := ret) ho hl hin hse hcode hy hK (by rw [hT]; exact hcB) hoB hclB hg (hsize.trans hml.symm) (argsL := As) (rest := rest) (fun sig h => hn.trans (hlen sig h)) hstack hW (by rw [hb]; exact hdg)
    (fun vm₁ hW₁ => ⟨hf.1, hf.2, hPc (T.setVm vm₁) hT hW₁⟩) with ⟨v, vm₁, ⟨U', l2, c2, s2⟩, hW₁, X', ⟨g', mk, t, L, e1, e2, hq, h1, hL, h2, h3⟩, st⟩ | ⟨q, vm₁, ⟨U', l2, c2, s2⟩, hW₁, X', ⟨g', mk, t, L, E, ce, e1, e2, hq, hce, hcv, hcl, h1, hL, h2, h3⟩, st⟩
  · dsimp only [Pt.U, Pt.locs, Pt.cells, Pt.slots] at X' e1 e2 h1 h2 h3 st
    subst h1; subst h2; subst h3
    exact Or.inl ⟨v, (T.setVm vm₁).calling g' mk (Value.ref b :: As).toArray, t, U', L, hT, X', hL, e1, e2, hq, st⟩
  · dsimp only [Pt.U, Pt.locs, Pt.cells, Pt.slots] at X' e1 e2 h1 h2 h3 st hcl
    subst h1; subst h2; subst h3
    exact Or.inr ⟨q, (T.setVm vm₁).calling g' mk (Value.ref b :: As).toArray, t, U', L, E, ce, hT, X', hL, e1, e2, hq, hce, hcv, vx_cls hW₁ hcl, st⟩
theorem vx_runS (S : CallFix p m c cc nL s args Ts own) (hM : vx_Met l y ws rm Pc Qc XC mc ms free) (cw : CallB R s args own index y bytes maxL ret ws rm mc ms n ∧ (Cond.static y).before args s = true) (hp : PreS s H Pc As)
    (hg : g.method = m) (hn : As.length = n) (hsize : g.locals.size = nL) (hstack : g.stack = As.reverse ++ rest) (hW : 2 * g.monitorRoom + (rest.map fun v => v.category).sum ≤ 8) (hdg : decode cc g.pc = .ok (.invokestatic index, 3)) (hf : cells + mc ≤ R.cells ∧ slots + ms ≤ R.slots) :
    vx_Run p l e R s m args below meth c H locs cells slots mc ms g rest (Qc As.toArray) XC free := by
  have hK : vx_Back l R p e below s args y 3 8 (PreOf R mc ms Pc) (PostOf Qc mc ms free) (vx_Post XC mc ms free) := vx_callBack cw.1 hM hp.1
  obtain ⟨⟨-, -, -, -, -, -, hcode, hini, hy, hlen, hl⟩, hstt⟩ := cw
  obtain ⟨hx, hb, hml, ho, -⟩ := S
  intro T hT X
  rcases vx_callS X hx (bytes := bytes) (maxL := maxL) (ret := ret) ho hl hstt hini hcode hy hK hg (hsize.trans hml.symm) (argsL := As) (rest := rest) (fun sig h => hn.trans (hlen sig h)) hstack hW (by rw [hb]; exact hdg)
    (fun vm₁ hW₁ => ⟨hf.1, hf.2, hp.2 (T.setVm vm₁) hT hW₁⟩) with ⟨v, vm₁, ⟨U', l2, c2, s2⟩, hW₁, X', ⟨g', mk, t, L, e1, e2, hq, h1, hL, h2, h3⟩, st⟩ | ⟨q, vm₁, ⟨U', l2, c2, s2⟩, hW₁, X', ⟨g', mk, t, L, E, ce, e1, e2, hq, hce, hcv, hcl, h1, hL, h2, h3⟩, st⟩
  · dsimp only [Pt.U, Pt.locs, Pt.cells, Pt.slots] at X' e1 e2 h1 h2 h3 st
    subst h1; subst h2; subst h3
    exact Or.inl ⟨v, (T.setVm vm₁).calling g' mk As.toArray, t, U', L, hT, X', hL, e1, e2, hq, st⟩
  · dsimp only [Pt.U, Pt.locs, Pt.cells, Pt.slots] at X' e1 e2 h1 h2 h3 st hcl
    subst h1; subst h2; subst h3
    exact Or.inr ⟨q, (T.setVm vm₁).calling g' mk As.toArray, t, U', L, E, ce, hT, X', hL, e1, e2, hq, hce, hcv, vx_cls hW₁ hcl, st⟩
end Runs
section Rows
variable {p : Program} {l : Launch} {e : Env} {R : Room} {s : State} {m : MethodId} {args : Array Value} {below : List Frame} {meth : Method} {c : Code} {H : Heap} {locs : List Loc} {cells slots : Nat} {Q : State → Prop}
variable {mc ms : Nat} {free : Addr → Prop} {A0 A1 : Nat → Prop} {H0 : Heap} {a : Array Value} {pc : Nat} {ls : Array Slot} {st0 rest : List Value}
theorem vx_keep {st₀ t T' : State} {L : List Loc} (h0 : st₀.heap = H) (e1 : T'.heap = t.heap) (hS : va_S A0 H0 H locs) (hA : ∀ q, q < H.size → A1 q → A0 q) (hf : ∀ q, free q → A0 q) (hL : ∀ q ∈ L, free q.base) (hF : va_F A1 st₀ t) :
    H.size ≤ T'.heap.size ∧ (∀ q : Nat, q < H.size → ¬ A1 q → T'.heap[q]? = H[q]?) ∧ va_S A0 H0 T'.heap (locs ++ L) := by
  obtain ⟨hz, hk⟩ := hF
  rw [h0] at hz hk
  exact ⟨by rw [e1]; exact hz, fun q h1 h2 => by rw [e1]; exact hk q h1 h2,
    ⟨Nat.le_trans hS.1 (by rw [e1]; exact hz), fun q h1 h2 => by rw [e1, hk q (Nat.lt_of_lt_of_le h1 hS.1) (fun z => h2 (hA q (Nat.lt_of_lt_of_le h1 hS.1) z))]; exact hS.2.1 q h1 h2, fun q hq => by
      rcases List.mem_append.mp hq with h | h
      · exact hS.2.2 q h
      · exact hf _ (hL q h)⟩⟩
theorem vx_calli {S SX : Type} {post : Int32 → S → Prop} {px : SX → Prop} {B : S → State → Prop} {BX : String → SX → State → Prop} {AX : Nat → Prop} (hr : vx_Run p l e R s m args below meth c H locs cells slots mc ms (F0 m pc ls st0) rest (va_Qi post B A1 a) (vx_X px BX AX) free) (hS : va_S A0 H0 H locs) (hA : ∀ q, q < H.size → A1 q → A0 q) (hf : ∀ q, free q → A0 q) (hAX : ∀ q, q < H.size → AX q → A0 q)
    (kx : ∀ (E : String) (ce : Cell) (q9 : Addr) (u : SX) (t : State) (H1 : Heap) (locs1 : List Loc), t.heap = H1 → s.vm.Alike t.vm → px u → BX E u t → H.size ≤ H1.size → (∀ q : Nat, q < H.size → ¬ AX q → H1[q]? = H[q]?) → va_S A0 H0 H1 locs1 → H1[q9]? = some ce → ce.vm = .none → s.vm.findClass E = some ce.cls → vx_W p l e R s m args below meth c H1 locs1 (cells + mc) (slots + ms) Q (F0 m pc ls rest) q9)
    (kk : ∀ (r : Int32) (u : S) (t : State) (H1 : Heap) (locs1 : List Loc), t.heap = H1 → s.vm.Alike t.vm → post r u → B u t → H.size ≤ H1.size → (∀ q : Nat, q < H.size → ¬ A1 q → H1[q]? = H[q]?) → va_S A0 H0 H1 locs1 → W p l e R s m args below meth c H1 locs1 (cells + mc) (slots + ms) Q (F0 m (pc + 3) ls (.int r :: rest))) : W p l e R s m args below meth c H locs cells slots Q (F0 m pc ls st0) := by
  intro T hT X
  rcases hr T hT X with ⟨v, st₀, t, T', L, h0, X', hL, e1, e2, ⟨⟨r, u, hv, hp, hb⟩, hF⟩, st⟩ | ⟨q, st₀, t, T', L, E, ce, h0, X', hL, e1, e2, ⟨u, hp, hb, hF⟩, hce, hcv, hcl, st⟩
  · cases hv
    obtain ⟨k1, k2, k3⟩ := vx_keep h0 e1 hS hA hf hL hF
    obtain ⟨t2, a1, b1⟩ := kk r u t T'.heap (locs ++ L) e1.symm (by rw [← e2]; exact X'.warmed.alike) hp hb k1 k2 k3 T' rfl X'
    exact ⟨t2, st t2 a1, b1⟩
  · obtain ⟨k1, k2, k3⟩ := vx_keep h0 e1 hS hAX hf hL hF
    obtain ⟨t2, a1, b1⟩ := kx E ce q u t T'.heap (locs ++ L) e1.symm (by rw [← e2]; exact X'.warmed.alike) hp hb k1 k2 k3 (by rw [e1]; exact hce) hcv hcl T' rfl X'
    exact ⟨t2, st.trans a1, b1⟩
theorem vx_calll {S SX : Type} {post : Int64 → S → Prop} {px : SX → Prop} {B : S → State → Prop} {BX : String → SX → State → Prop} {AX : Nat → Prop} (hr : vx_Run p l e R s m args below meth c H locs cells slots mc ms (F0 m pc ls st0) rest (va_Ql post B A1 a) (vx_X px BX AX) free) (hS : va_S A0 H0 H locs) (hA : ∀ q, q < H.size → A1 q → A0 q) (hf : ∀ q, free q → A0 q) (hAX : ∀ q, q < H.size → AX q → A0 q)
    (kx : ∀ (E : String) (ce : Cell) (q9 : Addr) (u : SX) (t : State) (H1 : Heap) (locs1 : List Loc), t.heap = H1 → s.vm.Alike t.vm → px u → BX E u t → H.size ≤ H1.size → (∀ q : Nat, q < H.size → ¬ AX q → H1[q]? = H[q]?) → va_S A0 H0 H1 locs1 → H1[q9]? = some ce → ce.vm = .none → s.vm.findClass E = some ce.cls → vx_W p l e R s m args below meth c H1 locs1 (cells + mc) (slots + ms) Q (F0 m pc ls rest) q9)
    (kk : ∀ (r : Int64) (u : S) (t : State) (H1 : Heap) (locs1 : List Loc), t.heap = H1 → s.vm.Alike t.vm → post r u → B u t → H.size ≤ H1.size → (∀ q : Nat, q < H.size → ¬ A1 q → H1[q]? = H[q]?) → va_S A0 H0 H1 locs1 → W p l e R s m args below meth c H1 locs1 (cells + mc) (slots + ms) Q (F0 m (pc + 3) ls (.long r :: rest))) : W p l e R s m args below meth c H locs cells slots Q (F0 m pc ls st0) := by
  intro T hT X
  rcases hr T hT X with ⟨v, st₀, t, T', L, h0, X', hL, e1, e2, ⟨⟨r, u, hv, hp, hb⟩, hF⟩, st⟩ | ⟨q, st₀, t, T', L, E, ce, h0, X', hL, e1, e2, ⟨u, hp, hb, hF⟩, hce, hcv, hcl, st⟩
  · cases hv
    obtain ⟨k1, k2, k3⟩ := vx_keep h0 e1 hS hA hf hL hF
    obtain ⟨t2, a1, b1⟩ := kk r u t T'.heap (locs ++ L) e1.symm (by rw [← e2]; exact X'.warmed.alike) hp hb k1 k2 k3 T' rfl X'
    exact ⟨t2, st t2 a1, b1⟩
  · obtain ⟨k1, k2, k3⟩ := vx_keep h0 e1 hS hAX hf hL hF
    obtain ⟨t2, a1, b1⟩ := kx E ce q u t T'.heap (locs ++ L) e1.symm (by rw [← e2]; exact X'.warmed.alike) hp hb k1 k2 k3 (by rw [e1]; exact hce) hcv hcl T' rfl X'
    exact ⟨t2, st.trans a1, b1⟩
theorem vx_callf {S SX : Type} {post : UInt32 → S → Prop} {px : SX → Prop} {B : S → State → Prop} {BX : String → SX → State → Prop} {AX : Nat → Prop} (hr : vx_Run p l e R s m args below meth c H locs cells slots mc ms (F0 m pc ls st0) rest (va_Qf post B A1 a) (vx_X px BX AX) free) (hS : va_S A0 H0 H locs) (hA : ∀ q, q < H.size → A1 q → A0 q) (hf : ∀ q, free q → A0 q) (hAX : ∀ q, q < H.size → AX q → A0 q)
    (kx : ∀ (E : String) (ce : Cell) (q9 : Addr) (u : SX) (t : State) (H1 : Heap) (locs1 : List Loc), t.heap = H1 → s.vm.Alike t.vm → px u → BX E u t → H.size ≤ H1.size → (∀ q : Nat, q < H.size → ¬ AX q → H1[q]? = H[q]?) → va_S A0 H0 H1 locs1 → H1[q9]? = some ce → ce.vm = .none → s.vm.findClass E = some ce.cls → vx_W p l e R s m args below meth c H1 locs1 (cells + mc) (slots + ms) Q (F0 m pc ls rest) q9)
    (kk : ∀ (r : UInt32) (u : S) (t : State) (H1 : Heap) (locs1 : List Loc), t.heap = H1 → s.vm.Alike t.vm → post r u → B u t → H.size ≤ H1.size → (∀ q : Nat, q < H.size → ¬ A1 q → H1[q]? = H[q]?) → va_S A0 H0 H1 locs1 → W p l e R s m args below meth c H1 locs1 (cells + mc) (slots + ms) Q (F0 m (pc + 3) ls (.float r :: rest))) : W p l e R s m args below meth c H locs cells slots Q (F0 m pc ls st0) := by
  intro T hT X
  rcases hr T hT X with ⟨v, st₀, t, T', L, h0, X', hL, e1, e2, ⟨⟨r, u, hv, hp, hb⟩, hF⟩, st⟩ | ⟨q, st₀, t, T', L, E, ce, h0, X', hL, e1, e2, ⟨u, hp, hb, hF⟩, hce, hcv, hcl, st⟩
  · cases hv
    obtain ⟨k1, k2, k3⟩ := vx_keep h0 e1 hS hA hf hL hF
    obtain ⟨t2, a1, b1⟩ := kk r u t T'.heap (locs ++ L) e1.symm (by rw [← e2]; exact X'.warmed.alike) hp hb k1 k2 k3 T' rfl X'
    exact ⟨t2, st t2 a1, b1⟩
  · obtain ⟨k1, k2, k3⟩ := vx_keep h0 e1 hS hAX hf hL hF
    obtain ⟨t2, a1, b1⟩ := kx E ce q u t T'.heap (locs ++ L) e1.symm (by rw [← e2]; exact X'.warmed.alike) hp hb k1 k2 k3 (by rw [e1]; exact hce) hcv hcl T' rfl X'
    exact ⟨t2, st.trans a1, b1⟩
theorem vx_calld {S SX : Type} {post : UInt64 → S → Prop} {px : SX → Prop} {B : S → State → Prop} {BX : String → SX → State → Prop} {AX : Nat → Prop} (hr : vx_Run p l e R s m args below meth c H locs cells slots mc ms (F0 m pc ls st0) rest (va_Qd post B A1 a) (vx_X px BX AX) free) (hS : va_S A0 H0 H locs) (hA : ∀ q, q < H.size → A1 q → A0 q) (hf : ∀ q, free q → A0 q) (hAX : ∀ q, q < H.size → AX q → A0 q)
    (kx : ∀ (E : String) (ce : Cell) (q9 : Addr) (u : SX) (t : State) (H1 : Heap) (locs1 : List Loc), t.heap = H1 → s.vm.Alike t.vm → px u → BX E u t → H.size ≤ H1.size → (∀ q : Nat, q < H.size → ¬ AX q → H1[q]? = H[q]?) → va_S A0 H0 H1 locs1 → H1[q9]? = some ce → ce.vm = .none → s.vm.findClass E = some ce.cls → vx_W p l e R s m args below meth c H1 locs1 (cells + mc) (slots + ms) Q (F0 m pc ls rest) q9)
    (kk : ∀ (r : UInt64) (u : S) (t : State) (H1 : Heap) (locs1 : List Loc), t.heap = H1 → s.vm.Alike t.vm → post r u → B u t → H.size ≤ H1.size → (∀ q : Nat, q < H.size → ¬ A1 q → H1[q]? = H[q]?) → va_S A0 H0 H1 locs1 → W p l e R s m args below meth c H1 locs1 (cells + mc) (slots + ms) Q (F0 m (pc + 3) ls (.double r :: rest))) : W p l e R s m args below meth c H locs cells slots Q (F0 m pc ls st0) := by
  intro T hT X
  rcases hr T hT X with ⟨v, st₀, t, T', L, h0, X', hL, e1, e2, ⟨⟨r, u, hv, hp, hb⟩, hF⟩, st⟩ | ⟨q, st₀, t, T', L, E, ce, h0, X', hL, e1, e2, ⟨u, hp, hb, hF⟩, hce, hcv, hcl, st⟩
  · cases hv
    obtain ⟨k1, k2, k3⟩ := vx_keep h0 e1 hS hA hf hL hF
    obtain ⟨t2, a1, b1⟩ := kk r u t T'.heap (locs ++ L) e1.symm (by rw [← e2]; exact X'.warmed.alike) hp hb k1 k2 k3 T' rfl X'
    exact ⟨t2, st t2 a1, b1⟩
  · obtain ⟨k1, k2, k3⟩ := vx_keep h0 e1 hS hAX hf hL hF
    obtain ⟨t2, a1, b1⟩ := kx E ce q u t T'.heap (locs ++ L) e1.symm (by rw [← e2]; exact X'.warmed.alike) hp hb k1 k2 k3 (by rw [e1]; exact hce) hcv hcl T' rfl X'
    exact ⟨t2, st.trans a1, b1⟩
theorem vx_callv {S SX : Type} {post : S → Prop} {px : SX → Prop} {B : S → State → Prop} {BX : String → SX → State → Prop} {AX : Nat → Prop} (hr : vx_Run p l e R s m args below meth c H locs cells slots mc ms (F0 m pc ls st0) rest (va_Qv post B A1 a) (vx_X px BX AX) free) (hS : va_S A0 H0 H locs) (hA : ∀ q, q < H.size → A1 q → A0 q) (hf : ∀ q, free q → A0 q) (hAX : ∀ q, q < H.size → AX q → A0 q)
    (kx : ∀ (E : String) (ce : Cell) (q9 : Addr) (u : SX) (t : State) (H1 : Heap) (locs1 : List Loc), t.heap = H1 → s.vm.Alike t.vm → px u → BX E u t → H.size ≤ H1.size → (∀ q : Nat, q < H.size → ¬ AX q → H1[q]? = H[q]?) → va_S A0 H0 H1 locs1 → H1[q9]? = some ce → ce.vm = .none → s.vm.findClass E = some ce.cls → vx_W p l e R s m args below meth c H1 locs1 (cells + mc) (slots + ms) Q (F0 m pc ls rest) q9)
    (kk : ∀ (u : S) (t : State) (H1 : Heap) (locs1 : List Loc), t.heap = H1 → s.vm.Alike t.vm → post u → B u t → H.size ≤ H1.size → (∀ q : Nat, q < H.size → ¬ A1 q → H1[q]? = H[q]?) → va_S A0 H0 H1 locs1 → W p l e R s m args below meth c H1 locs1 (cells + mc) (slots + ms) Q (F0 m (pc + 3) ls (rest))) : W p l e R s m args below meth c H locs cells slots Q (F0 m pc ls st0) := by
  intro T hT X
  rcases hr T hT X with ⟨v, st₀, t, T', L, h0, X', hL, e1, e2, ⟨⟨u, hv, hp, hb⟩, hF⟩, st⟩ | ⟨q, st₀, t, T', L, E, ce, h0, X', hL, e1, e2, ⟨u, hp, hb, hF⟩, hce, hcv, hcl, st⟩
  · cases hv
    obtain ⟨k1, k2, k3⟩ := vx_keep h0 e1 hS hA hf hL hF
    obtain ⟨t2, a1, b1⟩ := kk u t T'.heap (locs ++ L) e1.symm (by rw [← e2]; exact X'.warmed.alike) hp hb k1 k2 k3 T' rfl X'
    exact ⟨t2, st t2 a1, b1⟩
  · obtain ⟨k1, k2, k3⟩ := vx_keep h0 e1 hS hAX hf hL hF
    obtain ⟨t2, a1, b1⟩ := kx E ce q u t T'.heap (locs ++ L) e1.symm (by rw [← e2]; exact X'.warmed.alike) hp hb k1 k2 k3 (by rw [e1]; exact hce) hcv hcl T' rfl X'
    exact ⟨t2, st.trans a1, b1⟩
/-- caught by the row x of this method's table; the rows ahead don't take it -/
theorem vx_catch {own name : String} {E : String} {ce : Cell} {q : Addr} (hown : s.vm.findClass own = some m.cls) (pre : List ExceptionTableEntry) (x : ExceptionTableEntry) (suf : List ExceptionTableEntry) (hsplit : c.exceptionTable.toList = pre ++ x :: suf)
    (hpass : ∀ z ∈ pre, covers z pc = false ∨ (z.catchType ≠ 0 ∧ ∃ nm : String, (Cond.classLink own z.catchType nm).before args s = true ∧ va_Nc E nm s)) (hx : covers x pc = true) (h0 : x.catchType ≠ 0)
    (hlink : (Cond.classLink own x.catchType name).before args s = true) (hcast : (Cond.castable E name).before args s = true) (hcell : H[q]? = some ce) (hv : ce.vm = .none) (hcl : s.vm.findClass E = some ce.cls)
    (kk : W p l e R s m args below meth c H locs cells slots Q (F0 m x.handlerPc ls [.ref q])) : vx_W p l e R s m args below meth c H locs cells slots Q (F0 m pc ls rest) q := by
  intro T hT X
  have hpl : e.platform.magicAccessors = ({} : Platform).magicAccessors := by rw [X.admits.platform]
  obtain ⟨c3, c4, hc3, hc4, hasg⟩ := Cond.castable_spec hcast
  cases Option.some.inj (hc3.symm.trans hcl)
  obtain ⟨c5, hc5, hcl5⟩ := Cond.classLink_spec hown hlink e.platform hpl
  cases Option.some.inj (hc4.symm.trans hc5)
  obtain ⟨vm', X', st⟩ := X.thenCaughtThrough q (g := F0 m pc ls rest) rfl (Steps.refl _) (by rw [hT]; exact hcell) (by rw [hv]; rfl) (by obtain ⟨k9, h9, -⟩ := Vm.findClass_spec hcl; exact ⟨k9, h9⟩) pre x suf hsplit
    (fun z hz => by
      rcases hpass z hz with h | ⟨hz0, nm, hl1, hn1⟩
      · exact Or.inl h
      · obtain ⟨c6, hc6, hcl6⟩ := Cond.classLink_spec hown hl1 e.platform hpl
        obtain ⟨a8, b8, h1, h2, h3⟩ := hn1
        cases Option.some.inj (h1.symm.trans hcl)
        cases Option.some.inj (h2.symm.trans hc6)
        exact Or.inr ⟨hz0, _, hcl6, h3⟩) hx (Or.inr ⟨h0, c4, hcl5, hasg⟩)
  obtain ⟨t, a1, b1⟩ := kk (T.setVm vm') hT X'
  exact ⟨t, st.trans a1, b1⟩
end Rows
section Ends
variable {p : Program} {l : Launch} {e : Env} {R : Room} {s : State} {m : MethodId} {args : Array Value} {below : List Frame} {meth : Method} {c : Code} {H : Heap} {locs : List Loc} {cells slots : Nat} {Q : State → Prop}
variable {mc ms : Nat} {free : Addr → Prop} {A0 A1 : Nat → Prop} {H0 : Heap} {a : Array Value} {ls : Array Slot} {st0 rest : List Value}
variable {Qc : Array Value → State → Outcome → State → Prop} {XC : String → State → State → Prop}
/-- what a body that may throw owes at its end -/
def vx_MQ (below : List Frame) (Qc : Array Value → State → Outcome → State → Prop) (XC : String → State → State → Prop) (a : Array Value) (s : State) (mc ms : Nat) (free : Addr → Prop) : State → Prop := fun t =>
  ∃ o, t.status = .running ∧ Ended t below o ∧ vx_Q Qc XC mc ms free a s o t
theorem vx_ret {g : JFrame} {mc ms : Nat} (k : W p l e R s m args below meth c H locs cells slots (MQ below Qc args s mc ms free) g) : W p l e R s m args below meth c H locs cells slots (vx_MQ below Qc XC args s mc ms free) g := by
  intro T hT X
  obtain ⟨t, a1, o, b1, b2, b3, b4⟩ := k T hT X
  exact ⟨t, a1, o, b1, b2, Or.inl ⟨b3, b4⟩⟩
/-- not caught here: it goes on to the caller -/
theorem vx_widen {g : JFrame} {q : Addr} {k n : Nat} (h1 : cells ≤ k) (h2 : slots ≤ n) (kk : vx_W p l e R s m args below meth c H locs k n Q g q) : vx_W p l e R s m args below meth c H locs cells slots Q g q := fun T hT X => kk T hT (stand_widen X h1 h2)
theorem vx_out {pc : Nat} {E : String} {ce : Cell} {q : Addr} {mc ms : Nat} (hout : ∀ x ∈ c.exceptionTable.toList, covers x pc = false) (hlocks : meth.locks = false) (hcell : H[q]? = some ce) (hv : ce.vm = .none) (hcl : s.vm.findClass E = some ce.cls)
    (hx : ∀ t : State, t.heap = H → s.vm.Alike t.vm → XC E s t) (hf : ∀ z ∈ locs, free z.base) (hc : cells ≤ mc) (hs : slots ≤ ms) :
    vx_W p l e R s m args below meth c H locs cells slots (vx_MQ below Qc XC args s mc ms free) (F0 m pc ls rest) q := by
  intro T hT X
  obtain ⟨st1, hrun, hend, hW, hsm⟩ := X.leaveThrown q (g := F0 m pc ls rest) rfl rfl rfl hout hlocks
  have hcell9 : (T.setFrames (.throwing q :: below)).heap[q]? = some ce := by
    show T.heap[q]? = some ce
    rw [hT]; exact hcell
  exact ⟨_, st1, .threw q, hrun, hend, Or.inr ⟨q, rfl, E, ce, locs, hx _ hT hW.alike, hcell9, hv, hcl, hW, hsm.mono hc hs, hf⟩⟩
theorem vx_frame {U : State} {k n : Nat} (h : s.sameButNew ({ U with vm := s.vm } : State) locs k n) : s.heap.size ≤ U.heap.size ∧ ∀ q : Nat, q < s.heap.size → (∀ z ∈ locs, z.base ≠ q) → U.heap[q]? = s.heap[q]? := by
  obtain ⟨-, h2, -, -, -, h6⟩ := h
  refine ⟨h2, fun q hq hz => ?_⟩
  obtain ⟨c9, e1, e2, e3, e4⟩ := h6 q _ (Array.getElem?_eq_getElem hq)
  have hs : c9.slots = (s.heap[q]).slots := Array.ext_getElem? fun i => e4 i fun hm => hz _ hm rfl
  have h9 : c9 = s.heap[q] := by
    rw [hs] at e2
    exact e2
  have e5 : U.heap[q]? = some c9 := e1
  rw [e5, h9, Array.getElem?_eq_getElem hq]
/-- the words of a throw but the four that speak of the heap -/
def vx_no (w : Cond) : Bool := decide (w ≠ .isRef (.static Bundle.tN "UNASSIGNED_STACK" Bundle.steD)) && decide (w ≠ .isRef (.static Bundle.tN "SUPPRESSED_SENTINEL" Bundle.listD)) && decide (w ≠ .laysStatic Bundle.tN "UNASSIGNED_STACK" Bundle.steD) && decide (w ≠ .laysStatic Bundle.tN "SUPPRESSED_SENTINEL" Bundle.listD)
def vx_at0 (own : String) (ic : Nat) (X : String) (names : List String) : List Cond := (Bundle.ownAtoms0 own ic X names).filter vx_no
def vx_atS (own : String) (ic : Nat) (X : String) (names : List String) : List Cond := (Bundle.ownAtoms own ic X names).filter vx_no
/-- a word that the tables alone decide, or a good one -/
def vx_ot (w : Cond) : Bool := w.onTables || goodWord w
theorem vx_ot_at {args a' : Array Value} {s U : State} {w : Cond} (hW : s.WarmedH U.vm) (hvm : s.vm = U.vm) (hg : vx_ot w = true) (h : w.before args s = true) : w.before a' U = true := by
  simp only [vx_ot, Bool.or_eq_true] at hg
  rcases hg with hg | hg
  · exact va_tabs hg hvm h
  · exact word_at hW (good_of_word hg) h
/-- a list's words: the good ones out of the method's own list, the others by premises of their own -/
theorem vx_hat {args : Array Value} {s : State} {L B : List Cond} (h1 : ∀ w ∈ L.filter goodWord, w.before args s = true) (h2 : ∀ w ∈ L.filter (fun w => !goodWord w), w ∈ B) (h3 : ∀ w ∈ B, w.before args s = true) : ∀ w ∈ L, w.before args s = true := by
  intro w hw
  by_cases g : goodWord w = true
  · exact h1 w (List.mem_filter.mpr ⟨hw, g⟩)
  · refine h3 w (h2 w (List.mem_filter.mpr ⟨hw, ?_⟩))
    show (!goodWord w) = true
    cases hgw : goodWord w
    · rfl
    · exact absurd hgw g
theorem vx_c {args : Array Value} {s : State} {w : Cond} {B : List Cond} (h : w.before args s = true) (t : ∀ w ∈ B, w.before args s = true) : ∀ w' ∈ w :: B, w'.before args s = true := fun w' h' => (List.mem_cons.mp h').elim (fun e => by rw [e]; exact h) (t w')
theorem vx_n {args : Array Value} {s : State} : ∀ w ∈ ([] : List Cond), w.before args s = true := fun _ h => nomatch h
theorem vx_own {args : Array Value} {s : State} {L : List Cond} (h1 : ∀ w ∈ L.filter vx_no, w.before args s = true)
    (hU : (Cond.isRef (.static Bundle.tN "UNASSIGNED_STACK" Bundle.steD)).before args s = true) (hN : (Cond.isRef (.static Bundle.tN "SUPPRESSED_SENTINEL" Bundle.listD)).before args s = true)
    (lU : (Cond.laysStatic Bundle.tN "UNASSIGNED_STACK" Bundle.steD).before args s = true) (lN : (Cond.laysStatic Bundle.tN "SUPPRESSED_SENTINEL" Bundle.listD).before args s = true) : ∀ w ∈ L, w.before args s = true := by
  intro w hw
  by_cases e1 : w = .isRef (.static Bundle.tN "UNASSIGNED_STACK" Bundle.steD)
  · rw [e1]; exact hU
  · by_cases e2 : w = .isRef (.static Bundle.tN "SUPPRESSED_SENTINEL" Bundle.listD)
    · rw [e2]; exact hN
    · by_cases e3 : w = .laysStatic Bundle.tN "UNASSIGNED_STACK" Bundle.steD
      · rw [e3]; exact lU
      · by_cases e4 : w = .laysStatic Bundle.tN "SUPPRESSED_SENTINEL" Bundle.listD
        · rw [e4]; exact lN
        · exact h1 w (List.mem_filter.mpr ⟨hw, by unfold vx_no; rw [decide_eq_true e1, decide_eq_true e2, decide_eq_true e3, decide_eq_true e4]; rfl⟩)
/-- where a static field lies, its class's statics cell in H -/
def vx_L (C n d : String) (A : Nat → Prop) (U : State) (H : Heap) : Prop := ∃ (c : ClassId) (k : Class) (i : Nat) (f : Field) (a : Nat) (cell : Cell), U.vm.findClass C = some c ∧ U.fieldFound? C n d = some (c, k, i, f) ∧ f.isStatic = true ∧ k.statics = some a ∧ H[a]? = some cell ∧ cell.vm.isStatics = true ∧ cell.cls = c ∧ f.slot < cell.slots.size ∧ k.staticTypes[f.slot]? = some f.type ∧ ¬ A a
theorem vx_L.moved {C n d : String} {A : Nat → Prop} {u U : State} {H : Heap} (hvm : u.vm.Alike U.vm) (h : vx_L C n d A u H) : vx_L C n d A U H := by
  obtain ⟨c, k, i, f, a, cell, h1, h2, h3, h4, h5, h6, h7, h8, h9, h10⟩ := h
  obtain ⟨k', hi', he⟩ := State.fieldFound?_setVm hvm h2
  exact ⟨c, k', i, f, a, cell, by rw [hvm.findClass]; exact h1, hi', h3, by rw [he]; exact h4, h5, h6, h7, h8, by rw [he]; exact h9, h10⟩
theorem vx_L.kept {C n d : String} {A : Nat → Prop} {U : State} {H H1 : Heap} (h : vx_L C n d A U H) (hq : ∀ a : Nat, a < H.size → ¬ A a → H1[a]? = H[a]?) : vx_L C n d A U H1 := by
  obtain ⟨c, k, i, f, a, cell, h1, h2, h3, h4, h5, h6, h7, h8, h9, h10⟩ := h
  exact ⟨c, k, i, f, a, cell, h1, h2, h3, h4, by rw [hq a (Array.getElem?_eq_some_iff.mp h5).1 h10]; exact h5, h6, h7, h8, h9, h10⟩
theorem vx_L.narrow {C n d : String} {A B : Nat → Prop} {U : State} {H : Heap} (h : vx_L C n d A U H) (hAB : ∀ q, B q → A q) : vx_L C n d B U H := by
  obtain ⟨c, k, i, f, a, cell, h1, h2, h3, h4, h5, h6, h7, h8, h9, h10⟩ := h
  exact ⟨c, k, i, f, a, cell, h1, h2, h3, h4, h5, h6, h7, h8, h9, fun z => h10 (hAB _ z)⟩
theorem vx_L.word {C n d : String} {A : Nat → Prop} {s : State} {args : Array Value} (h : vx_L C n d A s s.heap) : (Cond.laysStatic C n d).before args s = true := by
  obtain ⟨c, k, i, f, a, cell, h1, h2, h3, h4, h5, h6, h7, h8, h9, -⟩ := h
  show (Cond.laysStatic C n d).holds args s none s [] = true
  exact Cond.laysStatic_of h1 h2 h3 h4 h5 h6 h7 h8 h9
/-- .. and what it holds: null or some reference -/
def vx_Zq (C n d : String) (A : Nat → Prop) (U : State) (H : Heap) : Prop := va_Zq C n d A U H ∧ vx_L C n d A U H
theorem vx_Zq.moved {C n d : String} {A : Nat → Prop} {u U : State} {H : Heap} (hvm : u.vm.Alike U.vm) (h : vx_Zq C n d A u H) : vx_Zq C n d A U H := ⟨va_Zq.moved hvm h.1, vx_L.moved hvm h.2⟩
theorem vx_Zq.kept {C n d : String} {A : Nat → Prop} {U : State} {H H1 : Heap} (h : vx_Zq C n d A U H) (hq : ∀ a : Nat, a < H.size → ¬ A a → H1[a]? = H[a]?) : vx_Zq C n d A U H1 := ⟨va_Zq.kept h.1 hq, vx_L.kept h.2 hq⟩
theorem vx_Zq.narrow {C n d : String} {A B : Nat → Prop} {U : State} {H : Heap} (h : vx_Zq C n d A U H) (hAB : ∀ q, B q → A q) : vx_Zq C n d B U H := ⟨va_Zq.narrow h.1 hAB, vx_L.narrow h.2 hAB⟩
theorem vx_Zqof {args : Array Value} {s : State} {C n d : String} {A : Nat → Prop} (hl : (Cond.laysStatic C n d).before args s = true) (hini : (Cond.initialized C).before args s = true) (h : (Cond.isRef (.static C n d)).before args s = true) (hA : ∀ a : Nat, a < s.heap.size → ¬ A a) : vx_Zq C n d A s s.heap := by
  refine ⟨va_Zqof hl hini h hA, ?_⟩
  obtain ⟨c, k, i, f, a, cell, h1, h2, h3, h4, h5, h6, h7, h8, h9⟩ := Cond.laysStatic_spec hl
  exact ⟨c, k, i, f, a, cell, h1, h2, h3, h4, h5, h6, h7, h8, h9, hA a (Array.getElem?_eq_some_iff.mp h5).1⟩
theorem vx_isRef {C n d : String} {v : Value} {A : Nat → Prop} {s : State} {args : Array Value} (h : va_Z C n d v A s s.heap) (hv : v.isRef = true) : (Cond.isRef (.static C n d)).before args s = true := by
  obtain ⟨cf, kf, fi, f, a, cell, h1, h2, h3, h4, h5, h6, h7, -⟩ := h
  have he : (Term.static C n d).eval args s none [] s = some v := by
    simp [Term.eval, State.fieldNamed?, h1, h2, h4, h5, h6, h7]
  simp only [Cond.before, Cond.holds, Cond.value, he]
  cases v <;> simp_all [Value.isRef]
theorem vx_isRefq {C n d : String} {A : Nat → Prop} {s : State} {args : Array Value} (h : va_Zq C n d A s s.heap) : (Cond.isRef (.static C n d)).before args s = true := by
  rcases h with h | ⟨t, h⟩
  · exact vx_isRef h rfl
  · exact vx_isRef h rfl
/-- the same frame, seen from here: as if the method were called anew in this heap -/
theorem vx_rebase {T : State} (X : Stand p l e R s m args below meth c T locs cells slots) {R' : Room} (hf : R'.frames ≤ R.frames) (hl : R'.locals ≤ R.locals) (hc : cells + R'.cells ≤ R.cells) (hs : slots + R'.slots ≤ R.slots) :
    Stand p l e R' ((T.setVm s.vm).setFrames (.invoking m args :: below)) m args below meth c T [] 0 0 := by
  have htop : (T.setVm s.vm).topJava?.isSome := X.here.top
  have hF : ((T.setVm s.vm).setFrames (.invoking m args :: below)).frames = .invoking m args :: below := State.frames_setFrames _ (State.cur_lt_of_top htop)
  obtain ⟨g₀, hg0⟩ := Option.isSome_iff_exists.mp htop
  obtain ⟨r, hr⟩ := State.topJava?_eq_some.mp hg0
  have hl9 : e.platform.stackLimits (T.setVm s.vm).me = e.platform.stackLimits s.me := X.limits
  have hb9 : (T.setVm s.vm).me.stackBytes = s.me.stackBytes := X.bytes
  refine ⟨X.admits, X.cas, X.clock, hF, ?_, X.hears, X.method, X.code, X.here, X.tail, X.warmed, ?_, ?_, ?_⟩
  · have h := X.room
    have hU : ((T.setVm s.vm).setFrames (.invoking m args :: below)).localsInUse = s.localsInUse := by
      rw [State.localsInUse_invoking hF (meth := meth) (c := c) X.method X.code, State.localsInUse_invoking X.frames X.method X.code]
    simp only [State.hasRoom, Bool.and_eq_true, decide_eq_true_eq] at h ⊢
    obtain ⟨⟨⟨⟨h1, h2, h3, h4, h5, h6⟩, h7⟩, h8⟩, h9⟩ := h
    rw [X.frames, List.length_cons] at h2 h3
    have q1 := X.heapSize
    have q2 := X.used
    simp only [hF, hU, List.length_cons, State.stackLimits_setFrames, State.stackBytes_setFrames, hl9, hb9]
    refine ⟨⟨⟨⟨by omega, by omega, by omega, by omega, by omega, h6⟩, ?_⟩, ?_⟩, X.book⟩
    · show T.heap.size + R'.cells ≤ e.platform.maxCells
      omega
    · show T.slotsUsed + R'.slots ≤ e.platform.maxSlots
      omega
  · rw [State.stackLimits_setFrames]; rfl
  · rw [State.stackBytes_setFrames]; rfl
  · refine ⟨?_, Nat.le_refl _, Nat.le_refl _, ?_, ?_, fun a c9 h9 => ⟨c9, h9, rfl, rfl, fun _ _ => rfl⟩⟩
    · obtain ⟨t, ht, -⟩ := State.frames_cons hr
      show T.setVm s.vm = { ((T.setVm s.vm).setFrames (.invoking m args :: below)).setFrames (T.setVm s.vm).frames with heap := T.heap, slotsUsed := T.slotsUsed }
      rw [State.setFrames_setFrames, State.setFrames_self ht]
      rfl
    · show T.slotsUsed = T.slotsUsed + ((T.heap.toList.drop T.heap.size).map (·.slots.size)).sum
      rw [List.drop_eq_nil_of_le (Nat.le_of_eq Array.length_toList)]
      rfl
    · show ((T.heap.toList.drop T.heap.size).map (·.slots.size)).sum ≤ 0
      rw [List.drop_eq_nil_of_le (Nat.le_of_eq Array.length_toList)]
      exact Nat.le_refl _
/-- 'throw new E()': new; dup; invokespecial; athrow -/
theorem vx_throw0 {cc : ByteArray} {pc : Nat} (hexec : p.tables.exec = Jvm.exec) (hb : c.code = cc) (hl : l.stackTraces = false) {own cls : String} {names : List String} {ik ic mc ms : Nat} {A : Nat → Prop}
    (hown : s.vm.findClass own = some m.cls) (hcls : Bundle.fit cls = true) (hnames : ∀ n ∈ names, Bundle.fit n = true)
    (hk : (Cond.classLink own ik cls).before args s = true) (hini : (Cond.initialized cls).before args s = true) (hat : ∀ w ∈ vx_at0 own ic cls names, w.before args s = true)
    (hgood : ∀ w ∈ Cond.classLink own ik cls :: Cond.initialized cls :: vx_at0 own ic cls names, vx_ot w = true)
    (hU : vx_Zq Bundle.tN "UNASSIGNED_STACK" Bundle.steD A s s.heap) (hN : vx_Zq Bundle.tN "SUPPRESSED_SENTINEL" Bundle.listD A s s.heap) (hS : va_S A s.heap H locs) (hsize : ls.size = c.maxLocals)
    (d0 : decode cc pc = .ok (.new ik, 3)) (d3 : decode cc (pc + 3) = .ok (.dup, 1)) (d4 : decode cc (pc + 4) = .ok (.invokespecial ic, 3)) (d7 : decode cc (pc + 7) = .ok (.athrow, 1))
    (hout : ∀ x ∈ c.exceptionTable.toList, covers x (pc + 7) = false)
    (hRframes : names.length + 3 < R.frames) (hRlocals : (rest.map fun v => v.category).sum + (13 * (names.length + 1) + 42) ≤ R.locals) (hRcells : cells + 1 ≤ R.cells) (hRslots : slots + 6 ≤ R.slots) (hlocks : meth.locks = false)
    (hx : ∀ t : State, s.vm.Alike t.vm → H.size ≤ t.heap.size → (∀ q : Nat, q < H.size → t.heap[q]? = H[q]?) → XC cls s t)
    (hf : ∀ z ∈ locs, free z.base) (hc : cells + 1 ≤ mc) (hs : slots + 6 ≤ ms) :
    W p l e R s m args below meth c H locs cells slots (vx_MQ below Qc XC args s mc ms free) (F0 m pc ls rest) := by
  intro T hT X
  have htr : e.platform.stackTraces = false := (show e.platform.stackTraces = l.stackTraces by rw [X.admits.platform]).trans hl
  have Y := vx_rebase X (R' := { frames := R.frames, locals := R.locals, cells := 1, slots := 6 }) (Nat.le_refl _) (Nat.le_refl _) hRcells hRslots
  obtain ⟨s', hA⟩ : ∃ z, z = (T.setVm s.vm).setFrames (.invoking m args :: below) := ⟨_, rfl⟩
  rw [← hA] at Y
  have hvm : s'.vm = s.vm := by rw [hA]; rfl
  have hhp : s'.heap = H := by rw [hA]; exact hT
  have hW0 : s.WarmedH s'.vm := by rw [hvm]; exact State.WarmedH.refl s
  have hat' : ∀ w ∈ vx_at0 own ic cls names, w.before args s' = true := fun w hw => vx_ot_at hW0 hvm.symm (hgood w (List.mem_cons_of_mem _ (List.mem_cons_of_mem _ hw))) (hat w hw)
  have hk' : (Cond.classLink own ik cls).before args s' = true := vx_ot_at hW0 hvm.symm (hgood _ List.mem_cons_self) hk
  have hini' : (Cond.initialized cls).before args s' = true := vx_ot_at hW0 hvm.symm (hgood _ (List.mem_cons_of_mem _ List.mem_cons_self)) hini
  have hU' : vx_Zq Bundle.tN "UNASSIGNED_STACK" Bundle.steD A s' s'.heap := by rw [hhp]; exact vx_Zq.moved hW0.alike (hU.kept hS.2.1)
  have hN' : vx_Zq Bundle.tN "SUPPRESSED_SENTINEL" Bundle.listD A s' s'.heap := by rw [hhp]; exact vx_Zq.moved hW0.alike (hN.kept hS.2.1)
  have h : ∀ w ∈ Bundle.ownAtoms0 own ic cls names, w.before args s' = true := vx_own hat' (vx_isRefq hU'.1) (vx_isRefq hN'.1) hU'.2.word hN'.2.word
  have hown' : s'.vm.findClass own = some m.cls := by rw [hvm]; exact hown
  have hins : (Cond.instantiable cls 6).before args s' = true := h _ (by simp [Bundle.ownAtoms0])
  obtain ⟨vm₁, cX, kX, hfX, hkX, -, -, X₁, st1⟩ := Y.newCold hexec (own := own) (C := cls) (index := ik) (n := 6) hown' hk' hins hini'
    (g := F0 m pc ls rest) rfl (by rw [hb]; exact d0) (Nat.le_refl _) (Nat.le_refl _)
  generalize hT1 : (T.setVm vm₁).pushCell { cls := cX, slots := kX.instanceTypes.map defaultValue, vm := .none } = T1 at X₁ st1
  have hcat : (Value.ref T.heap.size).category = 1 := rfl
  have hcellA : T1.heap[T.heap.size]? = some (freshCell cX kX) := by rw [← hT1]; exact State.heap_pushCell_size _ _
  have d3' : decode c.code (pc + 3) = .ok (.dup, 1) := by rw [hb]; exact d3
  obtain ⟨U, hsteps, hrun, hend, hW, hsame, ce, hce, hO⟩ := X₁.ctorThrow0 hexec htr (own := own) (cls := cls) (names := names) (ic := ic) hown' hcls hnames h (fun x hx => nomatch hx) hfX hkX hcellA (by rw [hhp, hT]; exact Nat.le_refl _)
    (g := { method := m, pc := pc + 4, locals := ls, stack := .ref T.heap.size :: .ref T.heap.size :: rest, locked := none }) rfl hsize rfl rfl (rest := rest) rfl
    (by rw [hb]; exact d4) (by rw [hb]; exact d7) hout hRframes (by simp only [List.map_cons, List.sum_cons, hcat]; omega) hlocks
  obtain ⟨f1, f2⟩ := vx_frame hsame
  rw [hhp] at f1 f2
  have hWs : s.WarmedH U.vm := State.WarmedH.trans hW0 hW
  have hcl : s.vm.findClass cls = some ce.cls := by
    have h9 := hO.cls
    rw [hvm] at h9
    exact h9
  have hall : s.sameButNew ({ U with vm := s.vm } : State) locs mc ms := by
    subst hA
    obtain ⟨e1, e2⟩ := hsame
    rw [State.setFrames_setFrames] at e1
    have h2 : (T.setVm s.vm).sameButNew ({ U with vm := s.vm } : State) [] (0 + 1) (0 + 6) := ⟨e1, e2⟩
    have h3 := X.same.trans h2
    rw [List.append_nil] at h3
    exact h3.mono hc hs
  refine ⟨U, ?_, .threw T.heap.size, hrun, hend, Or.inr ⟨T.heap.size, rfl, cls, ce, locs, hx U hWs.alike f1 (fun q hq => f2 q hq (fun z hz => nomatch hz)), hce, hO.vm, hcl, hWs, hall, hf⟩⟩
  refine st1 _ ?_
  show Steps p.tables e below (T1.setTop { method := m, pc := pc + 3, locals := ls, stack := .ref T.heap.size :: rest, locked := none }) _
  jvm_step X₁.here [X₁.here.top, hexec, d3', Value.category]
  exact hsteps
/-- 'throw new E("text")': new; dup; ldc; invokespecial; athrow -/
theorem vx_throwS {cc : ByteArray} {pc : Nat} (hexec : p.tables.exec = Jvm.exec) (hb : c.code = cc) (hl : l.stackTraces = false) {own cls text : String} {names : List String} {ik is ic mc ms sa : Nat} {A : Nat → Prop}
    (hown : s.vm.findClass own = some m.cls) (hcls : Bundle.fit cls = true) (hnames : ∀ n ∈ names, Bundle.fit n = true)
    (hk : (Cond.classLink own ik cls).before args s = true) (hini : (Cond.initialized cls).before args s = true) (hstr : vk_R own is text sa s) (hat : ∀ w ∈ vx_atS own ic cls names, w.before args s = true)
    (hgood : ∀ w ∈ Cond.classLink own ik cls :: Cond.initialized cls :: vx_atS own ic cls names, vx_ot w = true)
    (hU : vx_Zq Bundle.tN "UNASSIGNED_STACK" Bundle.steD A s s.heap) (hN : vx_Zq Bundle.tN "SUPPRESSED_SENTINEL" Bundle.listD A s s.heap) (hS : va_S A s.heap H locs) (hsize : ls.size = c.maxLocals)
    (d0 : decode cc pc = .ok (.new ik, 3)) (d3 : decode cc (pc + 3) = .ok (.dup, 1)) (d4 : decode cc (pc + 4) = .ok (.ldc is, 2)) (d6 : decode cc (pc + 6) = .ok (.invokespecial ic, 3)) (d9 : decode cc (pc + 9) = .ok (.athrow, 1))
    (hout : ∀ x ∈ c.exceptionTable.toList, covers x (pc + 9) = false)
    (hRframes : names.length + 3 < R.frames) (hRlocals : (rest.map fun v => v.category).sum + (13 * (names.length + 1) + 43) ≤ R.locals) (hRcells : cells + 1 ≤ R.cells) (hRslots : slots + 6 ≤ R.slots) (hlocks : meth.locks = false)
    (hx : ∀ t : State, s.vm.Alike t.vm → H.size ≤ t.heap.size → (∀ q : Nat, q < H.size → t.heap[q]? = H[q]?) → XC cls s t)
    (hf : ∀ z ∈ locs, free z.base) (hc : cells + 1 ≤ mc) (hs : slots + 6 ≤ ms) :
    W p l e R s m args below meth c H locs cells slots (vx_MQ below Qc XC args s mc ms free) (F0 m pc ls rest) := by
  intro T hT X
  have htr : e.platform.stackTraces = false := (show e.platform.stackTraces = l.stackTraces by rw [X.admits.platform]).trans hl
  have Y := vx_rebase X (R' := { frames := R.frames, locals := R.locals, cells := 1, slots := 6 }) (Nat.le_refl _) (Nat.le_refl _) hRcells hRslots
  obtain ⟨s', hA⟩ : ∃ z, z = (T.setVm s.vm).setFrames (.invoking m args :: below) := ⟨_, rfl⟩
  rw [← hA] at Y
  have hvm : s'.vm = s.vm := by rw [hA]; rfl
  have hhp : s'.heap = H := by rw [hA]; exact hT
  have hW0 : s.WarmedH s'.vm := by rw [hvm]; exact State.WarmedH.refl s
  have hat' : ∀ w ∈ vx_atS own ic cls names, w.before args s' = true := fun w hw => vx_ot_at hW0 hvm.symm (hgood w (List.mem_cons_of_mem _ (List.mem_cons_of_mem _ hw))) (hat w hw)
  have hk' : (Cond.classLink own ik cls).before args s' = true := vx_ot_at hW0 hvm.symm (hgood _ List.mem_cons_self) hk
  have hini' : (Cond.initialized cls).before args s' = true := vx_ot_at hW0 hvm.symm (hgood _ (List.mem_cons_of_mem _ List.mem_cons_self)) hini
  have hU' : vx_Zq Bundle.tN "UNASSIGNED_STACK" Bundle.steD A s' s'.heap := by rw [hhp]; exact vx_Zq.moved hW0.alike (hU.kept hS.2.1)
  have hN' : vx_Zq Bundle.tN "SUPPRESSED_SENTINEL" Bundle.listD A s' s'.heap := by rw [hhp]; exact vx_Zq.moved hW0.alike (hN.kept hS.2.1)
  have h : ∀ w ∈ Bundle.ownAtoms own ic cls names, w.before args s' = true := vx_own hat' (vx_isRefq hU'.1) (vx_isRefq hN'.1) hU'.2.word hN'.2.word
  have hown' : s'.vm.findClass own = some m.cls := by rw [hvm]; exact hown
  have hins : (Cond.instantiable cls 6).before args s' = true := h _ (by simp [Bundle.ownAtoms])
  obtain ⟨vm₁, cX, kX, hfX, hkX, -, -, X₁, st1⟩ := Y.newCold hexec (own := own) (C := cls) (index := ik) (n := 6) hown' hk' hins hini'
    (g := F0 m pc ls rest) rfl (by rw [hb]; exact d0) (Nat.le_refl _) (Nat.le_refl _)
  generalize hT1 : (T.setVm vm₁).pushCell { cls := cX, slots := kX.instanceTypes.map defaultValue, vm := .none } = T1 at X₁ st1
  have hcat : (Value.ref T.heap.size).category = 1 := rfl
  have hcellA : T1.heap[T.heap.size]? = some (freshCell cX kX) := by rw [← hT1]; exact State.heap_pushCell_size _ _
  have d3' : decode c.code (pc + 3) = .ok (.dup, 1) := by rw [hb]; exact d3
  have d4' : decode c.code (pc + 4) = .ok (.ldc is, 2) := by rw [hb]; exact d4
  have hstr' : vk_R own is text sa s' := vk_R.warm hW0 hstr
  obtain ⟨U, hsteps, hrun, hend, hW, hsame, ce, hce, hO⟩ := X₁.ctorThrowS hexec htr (own := own) (cls := cls) (names := names) (ic := ic) hown' hcls hnames h (fun x hx => nomatch hx) hfX hkX hcellA (by rw [hhp, hT]; exact Nat.le_refl _) (msg := .ref sa) rfl
    (g := { method := m, pc := pc + 6, locals := ls, stack := .ref sa :: .ref T.heap.size :: .ref T.heap.size :: rest, locked := none }) rfl hsize rfl rfl (rest := rest) rfl
    (by rw [hb]; exact d6) (by rw [hb]; exact d9) hout hRframes (by simp only [List.map_cons, List.sum_cons, hcat]; omega) hlocks
  obtain ⟨f1, f2⟩ := vx_frame hsame
  rw [hhp] at f1 f2
  have hWs : s.WarmedH U.vm := State.WarmedH.trans hW0 hW
  have hcl : s.vm.findClass cls = some ce.cls := by
    have h9 := hO.cls
    rw [hvm] at h9
    exact h9
  have hall : s.sameButNew ({ U with vm := s.vm } : State) locs mc ms := by
    subst hA
    obtain ⟨e1, e2⟩ := hsame
    rw [State.setFrames_setFrames] at e1
    have h2 : (T.setVm s.vm).sameButNew ({ U with vm := s.vm } : State) [] (0 + 1) (0 + 6) := ⟨e1, e2⟩
    have h3 := X.same.trans h2
    rw [List.append_nil] at h3
    exact h3.mono hc hs
  refine ⟨U, ?_, .threw T.heap.size, hrun, hend, Or.inr ⟨T.heap.size, rfl, cls, ce, locs, hx U hWs.alike f1 (fun q hq => f2 q hq (fun z hz => nomatch hz)), hce, hO.vm, hcl, hWs, hall, hf⟩⟩
  refine st1 _ ?_
  show Steps p.tables e below (T1.setTop { method := m, pc := pc + 3, locals := ls, stack := .ref T.heap.size :: rest, locked := none }) _
  jvm_step X₁.here [X₁.here.top, hexec, d3', Value.category]
  exact X₁.ldcString hexec (own := own) (text := text) (index := is) (a := sa) hown' hstr'.1 hstr'.2
    (g := { method := m, pc := pc + 4, locals := ls, stack := .ref T.heap.size :: .ref T.heap.size :: rest, locked := none }) rfl d4' _ hsteps
/-- 'throw new E("text")', the text by a wide index -/
theorem vx_throwSW {cc : ByteArray} {pc : Nat} (hexec : p.tables.exec = Jvm.exec) (hb : c.code = cc) (hl : l.stackTraces = false) {own cls text : String} {names : List String} {ik is ic mc ms sa : Nat} {A : Nat → Prop}
    (hown : s.vm.findClass own = some m.cls) (hcls : Bundle.fit cls = true) (hnames : ∀ n ∈ names, Bundle.fit n = true)
    (hk : (Cond.classLink own ik cls).before args s = true) (hini : (Cond.initialized cls).before args s = true) (hstr : vk_R own is text sa s) (hat : ∀ w ∈ vx_atS own ic cls names, w.before args s = true)
    (hgood : ∀ w ∈ Cond.classLink own ik cls :: Cond.initialized cls :: vx_atS own ic cls names, vx_ot w = true)
    (hU : vx_Zq Bundle.tN "UNASSIGNED_STACK" Bundle.steD A s s.heap) (hN : vx_Zq Bundle.tN "SUPPRESSED_SENTINEL" Bundle.listD A s s.heap) (hS : va_S A s.heap H locs) (hsize : ls.size = c.maxLocals)
    (d0 : decode cc pc = .ok (.new ik, 3)) (d3 : decode cc (pc + 3) = .ok (.dup, 1)) (d4 : decode cc (pc + 4) = .ok (.ldc_w is, 3)) (d7 : decode cc (pc + 7) = .ok (.invokespecial ic, 3)) (d10 : decode cc (pc + 10) = .ok (.athrow, 1))
    (hout : ∀ x ∈ c.exceptionTable.toList, covers x (pc + 10) = false)
    (hRframes : names.length + 3 < R.frames) (hRlocals : (rest.map fun v => v.category).sum + (13 * (names.length + 1) + 43) ≤ R.locals) (hRcells : cells + 1 ≤ R.cells) (hRslots : slots + 6 ≤ R.slots) (hlocks : meth.locks = false)
    (hx : ∀ t : State, s.vm.Alike t.vm → H.size ≤ t.heap.size → (∀ q : Nat, q < H.size → t.heap[q]? = H[q]?) → XC cls s t)
    (hf : ∀ z ∈ locs, free z.base) (hc : cells + 1 ≤ mc) (hs : slots + 6 ≤ ms) :
    W p l e R s m args below meth c H locs cells slots (vx_MQ below Qc XC args s mc ms free) (F0 m pc ls rest) := by
  intro T hT X
  have htr : e.platform.stackTraces = false := (show e.platform.stackTraces = l.stackTraces by rw [X.admits.platform]).trans hl
  have Y := vx_rebase X (R' := { frames := R.frames, locals := R.locals, cells := 1, slots := 6 }) (Nat.le_refl _) (Nat.le_refl _) hRcells hRslots
  obtain ⟨s', hA⟩ : ∃ z, z = (T.setVm s.vm).setFrames (.invoking m args :: below) := ⟨_, rfl⟩
  rw [← hA] at Y
  have hvm : s'.vm = s.vm := by rw [hA]; rfl
  have hhp : s'.heap = H := by rw [hA]; exact hT
  have hW0 : s.WarmedH s'.vm := by rw [hvm]; exact State.WarmedH.refl s
  have hat' : ∀ w ∈ vx_atS own ic cls names, w.before args s' = true := fun w hw => vx_ot_at hW0 hvm.symm (hgood w (List.mem_cons_of_mem _ (List.mem_cons_of_mem _ hw))) (hat w hw)
  have hk' : (Cond.classLink own ik cls).before args s' = true := vx_ot_at hW0 hvm.symm (hgood _ List.mem_cons_self) hk
  have hini' : (Cond.initialized cls).before args s' = true := vx_ot_at hW0 hvm.symm (hgood _ (List.mem_cons_of_mem _ List.mem_cons_self)) hini
  have hU' : vx_Zq Bundle.tN "UNASSIGNED_STACK" Bundle.steD A s' s'.heap := by rw [hhp]; exact vx_Zq.moved hW0.alike (hU.kept hS.2.1)
  have hN' : vx_Zq Bundle.tN "SUPPRESSED_SENTINEL" Bundle.listD A s' s'.heap := by rw [hhp]; exact vx_Zq.moved hW0.alike (hN.kept hS.2.1)
  have h : ∀ w ∈ Bundle.ownAtoms own ic cls names, w.before args s' = true := vx_own hat' (vx_isRefq hU'.1) (vx_isRefq hN'.1) hU'.2.word hN'.2.word
  have hown' : s'.vm.findClass own = some m.cls := by rw [hvm]; exact hown
  have hins : (Cond.instantiable cls 6).before args s' = true := h _ (by simp [Bundle.ownAtoms])
  obtain ⟨vm₁, cX, kX, hfX, hkX, -, -, X₁, st1⟩ := Y.newCold hexec (own := own) (C := cls) (index := ik) (n := 6) hown' hk' hins hini'
    (g := F0 m pc ls rest) rfl (by rw [hb]; exact d0) (Nat.le_refl _) (Nat.le_refl _)
  generalize hT1 : (T.setVm vm₁).pushCell { cls := cX, slots := kX.instanceTypes.map defaultValue, vm := .none } = T1 at X₁ st1
  have hcat : (Value.ref T.heap.size).category = 1 := rfl
  have hcellA : T1.heap[T.heap.size]? = some (freshCell cX kX) := by rw [← hT1]; exact State.heap_pushCell_size _ _
  have d3' : decode c.code (pc + 3) = .ok (.dup, 1) := by rw [hb]; exact d3
  have d4' : decode c.code (pc + 4) = .ok (.ldc_w is, 3) := by rw [hb]; exact d4
  have hstr' : vk_R own is text sa s' := vk_R.warm hW0 hstr
  obtain ⟨U, hsteps, hrun, hend, hW, hsame, ce, hce, hO⟩ := X₁.ctorThrowS hexec htr (own := own) (cls := cls) (names := names) (ic := ic) hown' hcls hnames h (fun x hx => nomatch hx) hfX hkX hcellA (by rw [hhp, hT]; exact Nat.le_refl _) (msg := .ref sa) rfl
    (g := { method := m, pc := pc + 7, locals := ls, stack := .ref sa :: .ref T.heap.size :: .ref T.heap.size :: rest, locked := none }) rfl hsize rfl rfl (rest := rest) rfl
    (by rw [hb]; exact d7) (by rw [hb]; exact d10) hout hRframes (by simp only [List.map_cons, List.sum_cons, hcat]; omega) hlocks
  obtain ⟨f1, f2⟩ := vx_frame hsame
  rw [hhp] at f1 f2
  have hWs : s.WarmedH U.vm := State.WarmedH.trans hW0 hW
  have hcl : s.vm.findClass cls = some ce.cls := by
    have h9 := hO.cls
    rw [hvm] at h9
    exact h9
  have hall : s.sameButNew ({ U with vm := s.vm } : State) locs mc ms := by
    subst hA
    obtain ⟨e1, e2⟩ := hsame
    rw [State.setFrames_setFrames] at e1
    have h2 : (T.setVm s.vm).sameButNew ({ U with vm := s.vm } : State) [] (0 + 1) (0 + 6) := ⟨e1, e2⟩
    have h3 := X.same.trans h2
    rw [List.append_nil] at h3
    exact h3.mono hc hs
  refine ⟨U, ?_, .threw T.heap.size, hrun, hend, Or.inr ⟨T.heap.size, rfl, cls, ce, locs, hx U hWs.alike f1 (fun q hq => f2 q hq (fun z hz => nomatch hz)), hce, hO.vm, hcl, hWs, hall, hf⟩⟩
  refine st1 _ ?_
  show Steps p.tables e below (T1.setTop { method := m, pc := pc + 3, locals := ls, stack := .ref T.heap.size :: rest, locked := none }) _
  jvm_step X₁.here [X₁.here.top, hexec, d3', Value.category]
  exact X₁.ldcStringW hexec (own := own) (text := text) (index := is) (a := sa) hown' hstr'.1 hstr'.2
    (g := { method := m, pc := pc + 4, locals := ls, stack := .ref T.heap.size :: .ref T.heap.size :: rest, locked := none }) rfl d4' _ hsteps
end Ends
section Bodies
variable {l : Launch}
theorem vx_ofW {y : MethodName} {ws ws' : List Cond} {rm : Room} {Pc : Array Value → State → Prop} {Qc : Array Value → State → Outcome → State → Prop} {XC : String → State → State → Prop} {mc ms : Nat} {free : Addr → Prop} {cc : ByteArray} {maxL : Nat} {ret : Option FieldType}
    (hy : plainName y.cls = true) (hw : ws = Cond.code y cc maxL ret :: ws')
    (body : ∀ p e s m args below meth c s₁, BodyLoose p l y (headSpec ws rm) cc maxL ret e s m args below meth c s₁ → c.maxLocals = maxL → (∀ x ∈ c.exceptionTable.toList, False) → Pc args s →
      W p l e (headSpec ws rm).room s m args below meth c s.heap [] 0 0 (vx_MQ below Qc XC args s mc ms free) (entryFrame m args maxL)) : vx_Met l y ws rm Pc Qc XC mc ms free := by
  refine MetFree.of_bodyS (code := cc) (maxLocals := maxL) (ret := ret) hy ?_ ?_
  · intro args s m h hn
    obtain ⟨meth, c, h1, h2, h3, h4, h5, h6, -, -⟩ := Cond.code_spec hn (atoms_spec (ws := ws) h _ (by rw [hw]; exact List.mem_cons_self))
    exact ⟨meth, c, h1, h2, h3, h4, h5, h6⟩
  · intro p e s m args below meth c s₁ B hml hP _
    have hh0 : s₁.heap = s.heap := by rw [B.state]; rfl
    have ht : ∀ x ∈ c.exceptionTable.toList, False := by
      obtain ⟨meth9, c9, h1, h2, -, -, -, -, h7, -⟩ := Cond.code_spec B.named (atoms_spec (ws := ws) B.pre _ (by rw [hw]; exact List.mem_cons_self))
      cases Option.some.inj (h1.symm.trans B.method)
      cases Option.some.inj (h2.symm.trans (Stand.of_body B).code)
      intro x hx
      rw [Array.isEmpty_iff.mp h7] at hx
      cases hx
    obtain ⟨t, a1, o, b1, b2, b3⟩ := body p e s m args below meth c s₁ B hml ht hP s₁ hh0 (Stand.of_body B)
    exact ⟨t, o, a1, b1, b2, b3⟩
/-- the table of a body with handlers -/
theorem vx_table {p : Program} {x y : MethodName} {S : Spec} {cc bytes : ByteArray} {maxL maxL' : Nat} {ret ret' : Option FieldType} {e : Env} {s s₁ : State} {m : MethodId} {args : Array Value} {below : List Frame} {meth : Method} {c : Code} {hh : List (Nat × Nat × Nat × Nat)}
    (B : BodyLoose p l y S cc maxL ret e s m args below meth c s₁) (h : (Cond.codeWith y bytes maxL' ret' hh).before args s = true) : c.exceptionTable.toList = tableOf hh := by
  obtain ⟨m9, meth9, c9, hn9, h1, h2, -, -, h6, -⟩ := Cond.codeWith_spec h
  cases Option.some.inj (hn9.symm.trans B.named)
  cases Option.some.inj (h1.symm.trans B.method)
  cases Option.some.inj (h2.symm.trans (Stand.of_body B).code)
  rw [← h6, table_eq]
end Bodies
end VXA
/-! ===== END ===== -/
/-! ===== BEGIN a static call of a method with an exception table ===== -/
section VXS
variable {p : Program} {l : Launch} {e : Env} {R : Room} {s : State} {m : MethodId} {args : Array Value} {below : List Frame} {meth : Method} {c : Code} {T : State} {H : Heap} {locs : List Loc} {cells slots : Nat}
abbrev vx_CSW (R : Room) (s : State) (args : Array Value) (own : String) (index : Nat) (y : MethodName) (bytes : ByteArray) (maxL : Nat) (ret : Option FieldType) (hh : List (Nat × Nat × Nat × Nat)) (ws : List Cond) (rm : Room) (mc ms n : Nat) : Prop :=
  (rm.cells = mc ∧ rm.slots = ms ∧ rm.frames + 1 ≤ R.frames ∧ 8 + (maxL + 11) + rm.locals ≤ R.locals ∧ (∀ w ∈ ws, ∀ (a' : Array Value) (U : State), s.WarmedH U.vm → w.before a' U = true) ∧ Cond.codeWith y bytes maxL ret hh ∈ ws) ∧
  (Cond.codeWith y bytes maxL ret hh).before args s = true ∧ (Cond.initialized y.cls).before args s = true ∧ (y.cls ≠ "java/lang/invoke/MethodHandle" ∧ y.cls ≠ "java/lang/invoke/VarHandle") ∧
  (∀ sig, parseMethodDescriptor y.desc = some sig → n = sig.parameters.length) ∧ (Cond.methodLink own index y).before args s = true ∧ (Cond.static y).before args s = true
theorem vx_cwSW {own : String} {index maxL mc ms : Nat} {y : MethodName} {bytes : ByteArray} {ret : Option FieldType} {hh : List (Nat × Nat × Nat × Nat)} {Ts ws ws' : List Cond} {rm : Room} (n : Nat) (ht : ∀ w ∈ Ts, w.before args s = true) (hT : GoodIn Ts (va_wsS own index y ws)) (hw : ws = Cond.codeWith y bytes maxL ret hh :: ws') (hrc : rm.cells = mc) (hrs : rm.slots = ms)
    (hd : y.cls ≠ "java/lang/invoke/MethodHandle" ∧ y.cls ≠ "java/lang/invoke/VarHandle" ∧ (parseMethodDescriptor y.desc).map (fun d => d.parameters.length) = some n) (hR : rm.frames + 1 ≤ R.frames ∧ 8 + (maxL + 11) + rm.locals ≤ R.locals) :
    vx_CSW R s args own index y bytes maxL ret hh ws rm mc ms n := by
  have ok : ∀ w ∈ va_wsS own index y ws, w.before args s = true := fun w h => ht w (hT w h).1
  have hG : GoodIn Ts ws := fun w h => hT w (by unfold va_wsS; exact List.mem_append_right _ h)
  have hc : Cond.codeWith y bytes maxL ret hh ∈ ws := by rw [hw]; exact List.mem_cons_self
  refine ⟨⟨hrc, hrs, hR.1, hR.2, pay_in ht hG, hc⟩, ht _ (hG _ hc).1, ok _ (by simp [va_wsS]), ⟨hd.1, hd.2.1⟩, fun sig h => ?_, ok _ (by simp [va_wsS]), ok _ (by simp [va_wsS])⟩
  have h2 := hd.2.2
  rw [h] at h2
  exact (Option.some.inj h2).symm
theorem vx_callSW (X : Stand p l e R s m args below meth c T locs cells slots) (hexec : p.tables.exec = Jvm.exec) {own : String} {index : Nat} {y : MethodName} {bytes : ByteArray} {maxL : Nat} {ret : Option FieldType} {hh : List (Nat × Nat × Nat × Nat)}
    (hown : s.vm.findClass own = some m.cls) (hlink : (Cond.methodLink own index y).before args s = true) (hstat : (Cond.static y).before args s = true) (hinit : (Cond.initialized y.cls).before args s = true)
    (hcode : (Cond.codeWith y bytes maxL ret hh).before args s = true) (hy : y.cls ≠ "java/lang/invoke/MethodHandle" ∧ y.cls ≠ "java/lang/invoke/VarHandle")
    {W9 : Nat} {Pre : Pt → Array Value → Prop} {Post : Pt → Array Value → Option Value → Pt → Prop} (hK : Back l R p e below s args y 3 W9 Pre Post)
    {g : JFrame} (hg : g.method = m) (hsize : g.locals.size = c.maxLocals) {argsL rest : List Value} (hlen : ∀ sig, parseMethodDescriptor y.desc = some sig → argsL.length = sig.parameters.length)
    (hstack : g.stack = argsL.reverse ++ rest) (hW : 2 * g.monitorRoom + (rest.map fun v => v.category).sum ≤ W9) (hdg : decode c.code g.pc = .ok (.invokestatic index, 3))
    (hpre : ∀ vm₁, s.WarmedH vm₁ → Pre ⟨T.setVm vm₁, locs, cells, slots⟩ argsL.toArray) :
    ∃ (v : Option Value) (vm₁ : Vm) (B : Pt), s.WarmedH vm₁ ∧ Stand p l e R s m args below meth c B.U B.locs B.cells B.slots ∧ Post ⟨T.setVm vm₁, locs, cells, slots⟩ argsL.toArray v B ∧
      ∀ target, Steps p.tables e below (B.U.setTop { g with pc := g.pc + 3, stack := v.toList ++ rest }) target → Steps p.tables e below (T.setTop g) target := by
  obtain ⟨mk, methM, cM, hnamed, hmethM, -, -, -, -, -, -, hsigM⟩ := Cond.codeWith_spec hcode
  have hstatic : methM.isStatic = true := Cond.static_spec hnamed hmethM hstat
  obtain ⟨kP, hkP, -⟩ := className_of_methodNamed hnamed
  have hinitP : kP.init = .initialized := Cond.initialized_spec (findClass_of_methodNamed hnamed) hkP hinit
  obtain ⟨vm₁, X₁, hstep₁⟩ := X.invokestatic hexec hown hlink hnamed hmethM hstatic hkP hinitP hy (g := g) hg (argsL := argsL) (rest := rest) (hlen _ hsigM) hstack hdg
  obtain ⟨v, B, X', hpost, hsteps⟩ := hK m meth c ⟨T.setVm vm₁, locs, cells, slots⟩ { g with stack := rest } (.invokestatic index) mk argsL.toArray X₁ hg hsize hdg hW (X₁.named hnamed) (hpre vm₁ X₁.warmed)
  exact ⟨v, vm₁, B, X₁.warmed, X', hpost, fun target h => hstep₁ _ fun acts => by rw [doInvoke_state]; exact hsteps.trans h⟩
theorem vx_runSW {y : MethodName} {bytes cc : ByteArray} {maxL nL mc ms n index : Nat} {ret : Option FieldType} {hh : List (Nat × Nat × Nat × Nat)} {ws : List Cond} {rm : Room} {Pc : Array Value → State → Prop} {Qc : Array Value → State → Outcome → State → Prop} {free : Addr → Prop} {Ts : List Cond} {own : String} {As rest : List Value} {g : JFrame}
    (S : CallFix p m c cc nL s args Ts own) (hM : Met l y ws rm Pc Qc mc ms free) (cw : vx_CSW R s args own index y bytes maxL ret hh ws rm mc ms n) (hp : PreS s H Pc As)
    (hg : g.method = m) (hn : As.length = n) (hsize : g.locals.size = nL) (hstack : g.stack = As.reverse ++ rest) (hW : 2 * g.monitorRoom + (rest.map fun v => v.category).sum ≤ 8) (hdg : decode cc g.pc = .ok (.invokestatic index, 3)) (hf : cells + mc ≤ R.cells ∧ slots + ms ≤ R.slots) :
    va_Run p l e R s m args below meth c H locs cells slots mc ms g rest (Qc As.toArray) (free) := by
  obtain ⟨⟨hrc, hrs, hfr, hlo, hws, hcw⟩, hcode, hini, hy, hlen, hl, hstt⟩ := cw
  have hK : Back l R p e below s args y 3 8 (PreOf R mc ms Pc) (PostOf Qc mc ms free) := va_backW (hh := hh) (bytes := bytes) (maxL := maxL) (ret := ret) hM hp.1 hrc hrs hfr hlo hws hcw (fun a' U hW => word_at hW (Or.inl (by first | rfl | simp [Cond.onTables, Cond.keeps, Cond.steady])) hini)
  obtain ⟨hx, hb, hml, ho, -⟩ := S
  intro T hT X
  obtain ⟨v, vm₁, ⟨U', l2, c2, s2⟩, hW₁, X', ⟨g', mk, t, L, e1, e2, hq, h1, hL, h2, h3⟩, st⟩ := vx_callSW X hx (hh := hh) (bytes := bytes) (maxL := maxL) (ret := ret) ho hl hstt hini hcode hy hK hg (hsize.trans hml.symm) (argsL := As) (rest := rest) (fun sig h => hn.trans (hlen sig h)) hstack hW (by rw [hb]; exact hdg)
    (fun vm₁ hW₁ => ⟨hf.1, hf.2, hp.2 (T.setVm vm₁) hT hW₁⟩)
  dsimp only [Pt.U, Pt.locs, Pt.cells, Pt.slots] at X' e1 e2 h1 h2 h3 st
  subst h1; subst h2; subst h3
  exact ⟨v, (T.setVm vm₁).calling g' mk As.toArray, t, U', L, hT, X', hL, e1, e2, hq, st⟩
/-- not caught here, past rows that name other classes: it goes on to the caller -/
theorem vx_outP {p : Program} {l : Launch} {e : Env} {R : Room} {s : State} {m : MethodId} {args : Array Value} {below : List Frame} {meth : Method} {c : Code} {H : Heap} {locs : List Loc} {cells slots : Nat} {free : Addr → Prop} {ls : Array Slot} {rest : List Value} {Qc : Array Value → State → Outcome → State → Prop} {XC : String → State → State → Prop}
    {pc : Nat} {own E : String} {ce : Cell} {q : Addr} {mc ms : Nat} (hown : s.vm.findClass own = some m.cls) (hlocks : meth.locks = false)
    (hpass : ∀ z ∈ c.exceptionTable.toList, covers z pc = false ∨ (z.catchType ≠ 0 ∧ ∃ nm : String, (Cond.classLink own z.catchType nm).before args s = true ∧ va_Nc E nm s)) (hcell : H[q]? = some ce) (hv : ce.vm = .none) (hcl : s.vm.findClass E = some ce.cls)
    (hx : ∀ t : State, t.heap = H → s.vm.Alike t.vm → XC E s t) (hf : ∀ z ∈ locs, free z.base) (hc : cells ≤ mc) (hs : slots ≤ ms) :
    vx_W p l e R s m args below meth c H locs cells slots (vx_MQ below Qc XC args s mc ms free) (F0 m pc ls rest) q := by
  intro T hT X
  have hpl : e.platform.magicAccessors = ({} : Platform).magicAccessors := by rw [X.admits.platform]
  obtain ⟨vm', hW', X', st⟩ := X.outThrough hlocks q (g := F0 m pc ls rest) rfl rfl rfl (cell := ce) (by rw [hT]; exact hcell) (by rw [hv]; rfl)
    (by obtain ⟨k9, h9, -⟩ := Vm.findClass_spec hcl; exact ⟨k9, h9⟩) (fun z hz => by
      rcases hpass z hz with h | ⟨hz0, nm, hl1, hn1⟩
      · exact Or.inl h
      · obtain ⟨c6, hc6, hcl6⟩ := Cond.classLink_spec hown hl1 e.platform hpl
        obtain ⟨a8, b8, h1, h2, h3⟩ := hn1
        cases Option.some.inj (h1.symm.trans hcl)
        cases Option.some.inj (h2.symm.trans hc6)
        exact Or.inr ⟨hz0, _, hcl6, h3⟩)
  obtain ⟨g₀, hfr⟩ := X'.frames_eq
  have hcell9 : ((T.setVm vm').setFrames (.throwing q :: below)).heap[q]? = some ce := by
    show T.heap[q]? = some ce
    rw [hT]; exact hcell
  have hend : Ended ((T.setVm vm').setFrames (.throwing q :: below)) below (.threw q) := State.frames_setFrames _ (State.cur_lt_of_frames hfr)
  refine ⟨(T.setVm vm').setFrames (.throwing q :: below), ?_, .threw q, X'.here.running, hend, Or.inr ⟨q, rfl, E, ce, locs, hx _ hT (X'.ends _).1.alike, hcell9, hv, hcl, (X'.ends _).1, (X'.ends _).2.mono hc hs, hf⟩⟩
  rw [X.pushThrowing_eq]
  exact st
/-- a thing of a world lies in the heap -/
theorem vx_lt {D : va_G} {cl : List vw_C} {ws : va_W} {H1 : Heap} (h : va_P D cl ws H1) {k : Nat} {q : Nat × va_E} (hk : ws[k]? = some q) : q.1 < H1.size := (h k q hk).lt
end VXS
/-! ===== END ===== -/
/-! ===== BEGIN methods with a table of their own: called by a name, returning or throwing ===== -/
section VXH
/-! vx_backW, vx_callVX, vx_callSX, vx_callVW, vx_runVW, vx_runVX, vx_runSX, vx_ofWH follow the same proofs as their sisters above (Free/Laws.lean, Shelf42/LK1.lean); vx_outP calls Shelf42/NT130.lean (outThrough). -/
section
variable {l : Launch} {R : Room} {p : Program} {e : Env} {below : List Frame} {s : State} {sargs : Array Value} {y : MethodName} {len W9 : Nat}
theorem vx_backW {ws : List Cond} {rm : Room} {Pc : Array Value → State → Prop} {Qc : Array Value → State → Outcome → State → Prop} {XC : String → State → State → Prop} {mc ms : Nat} {free : Addr → Prop} {bytes : ByteArray} {maxL : Nat} {ret : Option FieldType} {hh : List (Nat × Nat × Nat × Nat)}
    (hM : vx_Met l y ws rm Pc Qc XC mc ms free) (hblind : FrameBlind Pc) (hrc : rm.cells = mc) (hrs : rm.slots = ms)
    (hframes : rm.frames + 1 ≤ R.frames) (hlocals : W9 + (maxL + 11) + rm.locals ≤ R.locals)
    (hws : ∀ w ∈ ws, ∀ a' U, s.WarmedH U.vm → w.before a' U = true) (hcode : Cond.codeWith y bytes maxL ret hh ∈ ws) (hinit : ∀ a' U, s.WarmedH U.vm → (Cond.initialized y.cls).before a' U = true) :
    vx_Back l R p e below s sargs y len W9 (PreOf R mc ms Pc) (PostOf Qc mc ms free) (vx_Post XC mc ms free) := by
  intro m meth c A g ig mk a X hg hsize hdg hW hn hp
  have h1 : (headSpec ws rm).pre.before a A.U = true := atoms_intro fun w hw => hws w hw _ _ X.warmed
  have h2 : (Cond.codeWith y bytes maxL ret hh).before a A.U = true := hws _ hcode _ _ X.warmed
  have h3 : (Cond.initialized y.cls).before a A.U = true := hinit _ _ X.warmed
  have h4 : A.cells + (headSpec ws rm).room.cells ≤ R.cells := by rw [show (headSpec ws rm).room.cells = mc from hrc]; exact hp.1
  have h5 : A.slots + (headSpec ws rm).room.slots ≤ R.slots := by rw [show (headSpec ws rm).room.slots = ms from hrs]; exact hp.2.1
  have hPc : Pc a (A.U.calling g mk a) := hblind _ _ _ _ hp.2.2
  obtain ⟨U, Ls, c0, s0⟩ := A
  dsimp only [Pt.U, Pt.locs, Pt.cells, Pt.slots] at h1 h2 h3 h4 h5 X hn hPc ⊢
  obtain ⟨m9, methY, cY, hn9, hmY, hcY, -, hlY, -⟩ := Cond.codeWith_spec h2
  cases Option.some.inj (hn9.symm.trans hn)
  obtain ⟨kY, hkY, -⟩ := className_of_methodNamed hn
  have hinitY : kY.init = .initialized := Cond.initialized_spec (findClass_of_methodNamed hn) hkY h3
  have h : At U g.method c below := by rw [hg]; exact X.here
  have hlocals9 : W9 + (maxL + 11) + (headSpec ws rm).room.locals ≤ R.locals := hlocals
  have happ : (headSpec ws rm).appliesLoose y e.platform (U.calling g mk a) = true :=
    Spec.appliesLoose_calling (g := g) h hdg hn hkY hinitY
      (X.room_calling (g := g) (R' := (headSpec ws rm).room) hsize hmY hcY hframes (by rw [hlY]; omega) h4 h5) h1
  obtain ⟨mid, hmid⟩ := h.above
  have hfr : (U.setTop g).frames = (.java g :: mid) ++ below := by rw [State.frames_setTop' g h.top, hmid]; rfl
  obtain ⟨o, s₂, hsteps, -, hend, hq⟩ := Steps.callFree hM p X.admits X.cas X.clock (acts := []) hfr happ hPc trivial
  have hq' : vx_Q Qc XC mc ms free a (U.calling g mk a) o s₂ := hq
  rw [State.frames_setTop' g h.top] at hend
  obtain ⟨g₀, hg0⟩ := Option.isSome_iff_exists.mp h.top
  obtain ⟨r, hr⟩ := State.topJava?_eq_some.mp hg0
  have hr' : (({ U with heap := s₂.heap, slotsUsed := s₂.slotsUsed } : State).setVm s₂.vm).frames = .java g₀ :: r := hr
  rcases hq' with ⟨hqc, L, hfe, hL⟩ | ⟨q, rfl, E, ce, L, hx, hce, hcv, hcl, hW₂, hsm, hL⟩
  · obtain ⟨⟨v, rfl⟩, hW₂, e2, q2, q3, q4, q5, q6⟩ := id hfe
    have e3 : s₂ = ({ (U.calling g mk a).setFrames s₂.frames with heap := s₂.heap, slotsUsed := s₂.slotsUsed } : State).setVm s₂.vm := by
      have : s₂ = ({ s₂ with vm := (U.calling g mk a).vm } : State).setVm s₂.vm := rfl
      rw [e2] at this
      exact this
    obtain ⟨c₂, i₂, len₂, hc₂, hd₂, hf₂⟩ := hend
    have hW' : U.WarmedH s₂.vm := hW₂
    have hcc : c₂ = c := by
      have h1 : s₂.code? g.method = U.code? g.method := by
        rw [State.code?_eq, State.code?_eq, hW'.alike.method?]
      exact Option.some.inj (hc₂.symm.trans (h1.trans h.code))
    subst hcc
    have hlen : len₂ = len := by rw [hdg] at hd₂; cases hd₂; rfl
    subst hlen
    have hs₂ : s₂ = (({ U with heap := s₂.heap, slotsUsed := s₂.slotsUsed } : State).setVm s₂.vm).setTop { g with pc := g.pc + len₂, stack := v.toList ++ g.stack } := by
      refine e3.trans ?_
      rw [hf₂, State.calling_eq h.top, State.setFrames_setFrames, State.setTop_of_frames _ hr', hr]
      rfl
    have hsame : U.sameButNew ({ U with heap := s₂.heap, slotsUsed := s₂.slotsUsed } : State) L mc ms := by
      refine ⟨?_, q2, q3, q4, q5, q6⟩
      obtain ⟨t, ht, -⟩ := State.frames_cons hr
      show ({ U with heap := s₂.heap, slotsUsed := s₂.slotsUsed } : State) = { U.setFrames U.frames with heap := s₂.heap, slotsUsed := s₂.slotsUsed }
      rw [State.setFrames_self ht]
    subst hg
    refine Or.inl ⟨v, ⟨(({ U with heap := s₂.heap, slotsUsed := s₂.slotsUsed } : State).setVm s₂.vm), Ls ++ L, c0 + mc, s0 + ms⟩,
      ⟨X.admits, X.cas, X.clock, X.frames, X.room, X.hears, X.method, X.code, (X.here.setHeapUsed s₂.heap s₂.slotsUsed).setVm hW'.alike, X.tail, State.WarmedH.trans X.warmed hW', X.limits, X.bytes, X.same.trans (hsame.setVm s.vm)⟩,
      ⟨g, mk, s₂, L, rfl, rfl, hqc, rfl, hL, rfl, rfl⟩, ?_⟩
    show Steps p.tables e below _ ((({ U with heap := s₂.heap, slotsUsed := s₂.slotsUsed } : State).setVm s₂.vm).setTop { g with pc := g.pc + len₂, stack := v.toList ++ g.stack })
    rw [← hs₂]
    exact hsteps
  · obtain ⟨e2, q2, q3, q4, q5, q6⟩ := id hsm
    have e3 : s₂ = ({ (U.calling g mk a).setFrames s₂.frames with heap := s₂.heap, slotsUsed := s₂.slotsUsed } : State).setVm s₂.vm := by
      have : s₂ = ({ s₂ with vm := (U.calling g mk a).vm } : State).setVm s₂.vm := rfl
      rw [e2] at this
      exact this
    have hf₂ : s₂.frames = .throwing q :: .java g :: U.frames.tail := hend
    have hW' : U.WarmedH s₂.vm := hW₂
    have hs₂ : s₂ = ((({ U with heap := s₂.heap, slotsUsed := s₂.slotsUsed } : State).setVm s₂.vm).setTop g).pushFrame (.throwing q) := by
      refine e3.trans ?_
      rw [hf₂, State.calling_eq h.top, State.setFrames_setFrames, State.pushFrame, State.frames_setTop _ hr', State.setTop_of_frames _ hr', State.setFrames_setFrames, hr]
      rfl
    have hsame : U.sameButNew ({ U with heap := s₂.heap, slotsUsed := s₂.slotsUsed } : State) L mc ms := by
      refine ⟨?_, q2, q3, q4, q5, q6⟩
      obtain ⟨t, ht, -⟩ := State.frames_cons hr
      show ({ U with heap := s₂.heap, slotsUsed := s₂.slotsUsed } : State) = { U.setFrames U.frames with heap := s₂.heap, slotsUsed := s₂.slotsUsed }
      rw [State.setFrames_self ht]
    subst hg
    refine Or.inr ⟨q, ⟨(({ U with heap := s₂.heap, slotsUsed := s₂.slotsUsed } : State).setVm s₂.vm), Ls ++ L, c0 + mc, s0 + ms⟩,
      ⟨X.admits, X.cas, X.clock, X.frames, X.room, X.hears, X.method, X.code, (X.here.setHeapUsed s₂.heap s₂.slotsUsed).setVm hW'.alike, X.tail, State.WarmedH.trans X.warmed hW', X.limits, X.bytes, X.same.trans (hsame.setVm s.vm)⟩,
      ⟨g, mk, s₂, L, E, ce, rfl, rfl, hx, hce, hcv, hcl, rfl, hL, rfl, rfl⟩, ?_⟩
    show Steps p.tables e below _ (((({ U with heap := s₂.heap, slotsUsed := s₂.slotsUsed } : State).setVm s₂.vm).setTop g).pushFrame (.throwing q))
    rw [← hs₂]
    exact hsteps
end
variable {p : Program} {l : Launch} {e : Env} {R : Room} {s : State} {m : MethodId} {args : Array Value} {below : List Frame} {meth : Method} {c : Code} {T : State} {H : Heap} {locs : List Loc} {cells slots : Nat}
theorem vx_callVX (X : Stand p l e R s m args below meth c T locs cells slots) (hexec : p.tables.exec = Jvm.exec) {own C : String} {index : Nat} {y : MethodName} {bytes : ByteArray} {maxL : Nat} {ret : Option FieldType} {hh : List (Nat × Nat × Nat × Nat)}
    (hown : s.vm.findClass own = some m.cls) (hlink : (Cond.methodLink own index y).before args s = true) (hinst : (Cond.instanceMethod y).before args s = true) (hsel : (Cond.selects C y y).before args s = true)
    (hcode : (Cond.codeWith y bytes maxL ret hh).before args s = true) (hy : y.cls ≠ "java/lang/invoke/MethodHandle" ∧ y.cls ≠ "java/lang/invoke/VarHandle")
    {W9 : Nat} {Pre : Pt → Array Value → Prop} {Post : Pt → Array Value → Option Value → Pt → Prop} {PostX : Pt → Array Value → Addr → Pt → Prop} (hK : vx_Back l R p e below s args y 3 W9 Pre Post PostX)
    {b : Addr} {cellB : Cell} (hcell : T.heap[b]? = some cellB) (hobj : cellB.vm.isStatics = false) (hcls : s.vm.findClass C = some cellB.cls)
    {g : JFrame} (hg : g.method = m) (hsize : g.locals.size = c.maxLocals) {argsL rest : List Value} (hlen : ∀ sig, parseMethodDescriptor y.desc = some sig → argsL.length = sig.parameters.length)
    (hstack : g.stack = argsL.reverse ++ .ref b :: rest) (hW : 2 * g.monitorRoom + (rest.map fun v => v.category).sum ≤ W9) (hdg : decode c.code g.pc = .ok (.invokevirtual index, 3))
    (hpre : ∀ vm₁, s.WarmedH vm₁ → Pre ⟨T.setVm vm₁, locs, cells, slots⟩ (Value.ref b :: argsL).toArray) :
    (∃ (v : Option Value) (vm₁ : Vm) (B : Pt), s.WarmedH vm₁ ∧ Stand p l e R s m args below meth c B.U B.locs B.cells B.slots ∧ Post ⟨T.setVm vm₁, locs, cells, slots⟩ (Value.ref b :: argsL).toArray v B ∧
      ∀ target, Steps p.tables e below (B.U.setTop { g with pc := g.pc + 3, stack := v.toList ++ rest }) target → Steps p.tables e below (T.setTop g) target) ∨
    (∃ (q : Addr) (vm₁ : Vm) (B : Pt), s.WarmedH vm₁ ∧ Stand p l e R s m args below meth c B.U B.locs B.cells B.slots ∧ PostX ⟨T.setVm vm₁, locs, cells, slots⟩ (Value.ref b :: argsL).toArray q B ∧
      Steps p.tables e below (T.setTop g) ((B.U.setTop { g with stack := rest }).pushFrame (.throwing q))) := by
  obtain ⟨mk, methM, hnamed, hmethM, hstM, habM⟩ := Cond.instanceMethod_spec hinst
  obtain ⟨m8, methM', cM, hn8, hmethM', -, -, -, -, -, -, hsigM⟩ := Cond.codeWith_spec hcode
  cases Option.some.inj (hn8.symm.trans hnamed)
  cases hmethM.symm.trans hmethM'
  obtain ⟨c2, r2, m2, q1, q2, q3, q4, kP, hkP, hkPi⟩ := Cond.selects_spec hsel
  cases hcls.symm.trans q1
  cases (State.methodFound?_of_named hnamed hy).symm.trans q2
  cases hnamed.symm.trans q3
  have hselP : selectMethod e.platform s.vm cellB.cls mk = .method mk := by rw [Launch.admits_selectMethod X.admits]; exact q4
  obtain ⟨vm₁, X₁, hstep₁⟩ := X.invokevirtual hexec hown hlink hnamed hmethM hstM hkP hkPi hy (a := b) (cell := cellB) hcell
    (fun z h => by rw [h] at hobj; cases hobj) hselP hmethM habM hkP hkPi (g := g) hg (argsL := argsL) (rest := rest) (hlen _ hsigM) hstack hdg
  rcases hK m meth c ⟨T.setVm vm₁, locs, cells, slots⟩ { g with stack := rest } (.invokevirtual index) mk (Value.ref b :: argsL).toArray X₁ hg hsize hdg hW (X₁.named hnamed) (hpre vm₁ X₁.warmed) with ⟨v, B, X', hpost, hsteps⟩ | ⟨q, B, X', hpost, hsteps⟩
  · exact Or.inl ⟨v, vm₁, B, X₁.warmed, X', hpost, fun target h => hstep₁ _ fun acts => by rw [doInvoke_state]; exact hsteps.trans h⟩
  · exact Or.inr ⟨q, vm₁, B, X₁.warmed, X', hpost, hstep₁ _ fun acts => by rw [doInvoke_state]; exact hsteps⟩
theorem vx_callSX (X : Stand p l e R s m args below meth c T locs cells slots) (hexec : p.tables.exec = Jvm.exec) {own : String} {index : Nat} {y : MethodName} {bytes : ByteArray} {maxL : Nat} {ret : Option FieldType} {hh : List (Nat × Nat × Nat × Nat)}
    (hown : s.vm.findClass own = some m.cls) (hlink : (Cond.methodLink own index y).before args s = true) (hstat : (Cond.static y).before args s = true) (hinit : (Cond.initialized y.cls).before args s = true)
    (hcode : (Cond.codeWith y bytes maxL ret hh).before args s = true) (hy : y.cls ≠ "java/lang/invoke/MethodHandle" ∧ y.cls ≠ "java/lang/invoke/VarHandle")
    {W9 : Nat} {Pre : Pt → Array Value → Prop} {Post : Pt → Array Value → Option Value → Pt → Prop} {PostX : Pt → Array Value → Addr → Pt → Prop} (hK : vx_Back l R p e below s args y 3 W9 Pre Post PostX)
    {g : JFrame} (hg : g.method = m) (hsize : g.locals.size = c.maxLocals) {argsL rest : List Value} (hlen : ∀ sig, parseMethodDescriptor y.desc = some sig → argsL.length = sig.parameters.length)
    (hstack : g.stack = argsL.reverse ++ rest) (hW : 2 * g.monitorRoom + (rest.map fun v => v.category).sum ≤ W9) (hdg : decode c.code g.pc = .ok (.invokestatic index, 3))
    (hpre : ∀ vm₁, s.WarmedH vm₁ → Pre ⟨T.setVm vm₁, locs, cells, slots⟩ argsL.toArray) :
    (∃ (v : Option Value) (vm₁ : Vm) (B : Pt), s.WarmedH vm₁ ∧ Stand p l e R s m args below meth c B.U B.locs B.cells B.slots ∧ Post ⟨T.setVm vm₁, locs, cells, slots⟩ argsL.toArray v B ∧
      ∀ target, Steps p.tables e below (B.U.setTop { g with pc := g.pc + 3, stack := v.toList ++ rest }) target → Steps p.tables e below (T.setTop g) target) ∨
    (∃ (q : Addr) (vm₁ : Vm) (B : Pt), s.WarmedH vm₁ ∧ Stand p l e R s m args below meth c B.U B.locs B.cells B.slots ∧ PostX ⟨T.setVm vm₁, locs, cells, slots⟩ argsL.toArray q B ∧
      Steps p.tables e below (T.setTop g) ((B.U.setTop { g with stack := rest }).pushFrame (.throwing q))) := by
  obtain ⟨mk, methM, cM, hnamed, hmethM, -, -, -, -, -, -, hsigM⟩ := Cond.codeWith_spec hcode
  have hstatic : methM.isStatic = true := Cond.static_spec hnamed hmethM hstat
  obtain ⟨kP, hkP, -⟩ := className_of_methodNamed hnamed
  have hinitP : kP.init = .initialized := Cond.initialized_spec (findClass_of_methodNamed hnamed) hkP hinit
  obtain ⟨vm₁, X₁, hstep₁⟩ := X.invokestatic hexec hown hlink hnamed hmethM hstatic hkP hinitP hy (g := g) hg (argsL := argsL) (rest := rest) (hlen _ hsigM) hstack hdg
  rcases hK m meth c ⟨T.setVm vm₁, locs, cells, slots⟩ { g with stack := rest } (.invokestatic index) mk argsL.toArray X₁ hg hsize hdg hW (X₁.named hnamed) (hpre vm₁ X₁.warmed) with ⟨v, B, X', hpost, hsteps⟩ | ⟨q, B, X', hpost, hsteps⟩
  · exact Or.inl ⟨v, vm₁, B, X₁.warmed, X', hpost, fun target h => hstep₁ _ fun acts => by rw [doInvoke_state]; exact hsteps.trans h⟩
  · exact Or.inr ⟨q, vm₁, B, X₁.warmed, X', hpost, hstep₁ _ fun acts => by rw [doInvoke_state]; exact hsteps⟩
theorem vx_callVW (X : Stand p l e R s m args below meth c T locs cells slots) (hexec : p.tables.exec = Jvm.exec) {own C : String} {index : Nat} {y : MethodName} {bytes : ByteArray} {maxL : Nat} {ret : Option FieldType} {hh : List (Nat × Nat × Nat × Nat)}
    (hown : s.vm.findClass own = some m.cls) (hlink : (Cond.methodLink own index y).before args s = true) (hinst : (Cond.instanceMethod y).before args s = true) (hsel : (Cond.selects C y y).before args s = true)
    (hcode : (Cond.codeWith y bytes maxL ret hh).before args s = true) (hy : y.cls ≠ "java/lang/invoke/MethodHandle" ∧ y.cls ≠ "java/lang/invoke/VarHandle")
    {W9 : Nat} {Pre : Pt → Array Value → Prop} {Post : Pt → Array Value → Option Value → Pt → Prop} (hK : Back l R p e below s args y 3 W9 Pre Post)
    {b : Addr} {cellB : Cell} (hcell : T.heap[b]? = some cellB) (hobj : cellB.vm.isStatics = false) (hcls : s.vm.findClass C = some cellB.cls)
    {g : JFrame} (hg : g.method = m) (hsize : g.locals.size = c.maxLocals) {argsL rest : List Value} (hlen : ∀ sig, parseMethodDescriptor y.desc = some sig → argsL.length = sig.parameters.length)
    (hstack : g.stack = argsL.reverse ++ .ref b :: rest) (hW : 2 * g.monitorRoom + (rest.map fun v => v.category).sum ≤ W9) (hdg : decode c.code g.pc = .ok (.invokevirtual index, 3))
    (hpre : ∀ vm₁, s.WarmedH vm₁ → Pre ⟨T.setVm vm₁, locs, cells, slots⟩ (Value.ref b :: argsL).toArray) :
    ∃ (v : Option Value) (vm₁ : Vm) (B : Pt), s.WarmedH vm₁ ∧ Stand p l e R s m args below meth c B.U B.locs B.cells B.slots ∧ Post ⟨T.setVm vm₁, locs, cells, slots⟩ (Value.ref b :: argsL).toArray v B ∧
      ∀ target, Steps p.tables e below (B.U.setTop { g with pc := g.pc + 3, stack := v.toList ++ rest }) target → Steps p.tables e below (T.setTop g) target := by
  obtain ⟨mk, methM, hnamed, hmethM, hstM, habM⟩ := Cond.instanceMethod_spec hinst
  obtain ⟨m8, methM', cM, hn8, hmethM', -, -, -, -, -, -, hsigM⟩ := Cond.codeWith_spec hcode
  cases Option.some.inj (hn8.symm.trans hnamed)
  cases hmethM.symm.trans hmethM'
  obtain ⟨c2, r2, m2, q1, q2, q3, q4, kP, hkP, hkPi⟩ := Cond.selects_spec hsel
  cases hcls.symm.trans q1
  cases (State.methodFound?_of_named hnamed hy).symm.trans q2
  cases hnamed.symm.trans q3
  have hselP : selectMethod e.platform s.vm cellB.cls mk = .method mk := by rw [Launch.admits_selectMethod X.admits]; exact q4
  obtain ⟨vm₁, X₁, hstep₁⟩ := X.invokevirtual hexec hown hlink hnamed hmethM hstM hkP hkPi hy (a := b) (cell := cellB) hcell
    (fun z h => by rw [h] at hobj; cases hobj) hselP hmethM habM hkP hkPi (g := g) hg (argsL := argsL) (rest := rest) (hlen _ hsigM) hstack hdg
  obtain ⟨v, B, X', hpost, hsteps⟩ := hK m meth c ⟨T.setVm vm₁, locs, cells, slots⟩ { g with stack := rest } (.invokevirtual index) mk (Value.ref b :: argsL).toArray X₁ hg hsize hdg hW (X₁.named hnamed) (hpre vm₁ X₁.warmed)
  exact ⟨v, vm₁, B, X₁.warmed, X', hpost, fun target h => hstep₁ _ fun acts => by rw [doInvoke_state]; exact hsteps.trans h⟩
abbrev vx_CVW (R : Room) (s : State) (args : Array Value) (own C : String) (index : Nat) (y : MethodName) (bytes : ByteArray) (maxL : Nat) (ret : Option FieldType) (hh : List (Nat × Nat × Nat × Nat)) (ws : List Cond) (rm : Room) (mc ms n : Nat) : Prop :=
  (rm.cells = mc ∧ rm.slots = ms ∧ rm.frames + 1 ≤ R.frames ∧ 8 + (maxL + 11) + rm.locals ≤ R.locals ∧ (∀ w ∈ ws, ∀ (a' : Array Value) (U : State), s.WarmedH U.vm → w.before a' U = true) ∧ Cond.codeWith y bytes maxL ret hh ∈ ws) ∧
  (Cond.codeWith y bytes maxL ret hh).before args s = true ∧ (Cond.initialized y.cls).before args s = true ∧ (y.cls ≠ "java/lang/invoke/MethodHandle" ∧ y.cls ≠ "java/lang/invoke/VarHandle") ∧
  (∀ sig, parseMethodDescriptor y.desc = some sig → n = sig.parameters.length) ∧ (Cond.methodLink own index y).before args s = true ∧ (Cond.instanceMethod y).before args s = true ∧ (Cond.selects C y y).before args s = true
theorem vx_cwVW {own C : String} {index maxL mc ms : Nat} {y : MethodName} {bytes : ByteArray} {ret : Option FieldType} {hh : List (Nat × Nat × Nat × Nat)} {Ts ws ws' : List Cond} {rm : Room} (n : Nat) (ht : ∀ w ∈ Ts, w.before args s = true) (hT : GoodIn Ts (wsV own index C y ws)) (hw : ws = Cond.codeWith y bytes maxL ret hh :: ws') (hrc : rm.cells = mc) (hrs : rm.slots = ms)
    (hd : y.cls = C ∧ y.cls ≠ "java/lang/invoke/MethodHandle" ∧ y.cls ≠ "java/lang/invoke/VarHandle" ∧ (parseMethodDescriptor y.desc).map (fun d => d.parameters.length) = some n) (hR : rm.frames + 1 ≤ R.frames ∧ 8 + (maxL + 11) + rm.locals ≤ R.locals) :
    vx_CVW R s args own C index y bytes maxL ret hh ws rm mc ms n := by
  obtain ⟨hC, hd⟩ := hd
  subst hC
  have ok : ∀ w ∈ wsV own index y.cls y ws, w.before args s = true := fun w h => ht w (hT w h).1
  have hG : GoodIn Ts ws := fun w h => hT w (by unfold wsV; exact List.mem_append_right _ h)
  have hc : Cond.codeWith y bytes maxL ret hh ∈ ws := by rw [hw]; exact List.mem_cons_self
  refine ⟨⟨hrc, hrs, hR.1, hR.2, pay_in ht hG, hc⟩, ht _ (hG _ hc).1, ok _ (by simp [wsV]), ⟨hd.1, hd.2.1⟩, fun sig h => ?_, ok _ (by simp [wsV]), ok _ (by simp [wsV]), ok _ (by simp [wsV])⟩
  have h2 := hd.2.2
  rw [h] at h2
  exact (Option.some.inj h2).symm
theorem vx_runVW {y : MethodName} {bytes cc : ByteArray} {maxL nL mc ms n index : Nat} {ret : Option FieldType} {hh : List (Nat × Nat × Nat × Nat)} {ws : List Cond} {rm : Room} {Pc : Array Value → State → Prop} {Qc : Array Value → State → Outcome → State → Prop} {free : Addr → Prop} {Ts : List Cond} {own C : String} {b : Addr} {As rest : List Value} {g : JFrame}
    (S : CallFix p m c cc nL s args Ts own) (hM : Met l y ws rm Pc Qc mc ms free) (cw : vx_CVW R s args own C index y bytes maxL ret hh ws rm mc ms n) (hp : PreV s H C b Pc As)
    (hg : g.method = m) (hn : As.length = n) (hsize : g.locals.size = nL) (hstack : g.stack = As.reverse ++ .ref b :: rest) (hW : 2 * g.monitorRoom + (rest.map fun v => v.category).sum ≤ 8) (hdg : decode cc g.pc = .ok (.invokevirtual index, 3)) (hf : cells + mc ≤ R.cells ∧ slots + ms ≤ R.slots) :
    va_Run p l e R s m args below meth c H locs cells slots mc ms g rest (Qc (Value.ref b :: As).toArray) free := by
  obtain ⟨⟨hrc, hrs, hfr, hlo, hws, hcw⟩, hcode, hini, hy, hlen, hl, hin, hse⟩ := cw
  have hK : Back l R p e below s args y 3 8 (PreOf R mc ms Pc) (PostOf Qc mc ms free) := va_backW (hh := hh) (bytes := bytes) (maxL := maxL) (ret := ret) hM hp.1 hrc hrs hfr hlo hws hcw (fun a' U hW => word_at hW (Or.inl (by first | rfl | simp [Cond.onTables, Cond.keeps, Cond.steady])) hini)
  obtain ⟨hx, hb, hml, ho, -⟩ := S
  obtain ⟨-, ⟨cellB, hcB, hoB, hclB⟩, hPc⟩ := hp
  intro T hT X
  obtain ⟨v, vm₁, ⟨U', l2, c2, s2⟩, hW₁, X', ⟨g', mk, t, L, e1, e2, hq, h1, hL, h2, h3⟩, st⟩ := vx_callVW X hx (C := C) (hh := hh) (bytes := bytes) (maxL := maxL) (ret := ret) ho hl hin hse hcode hy hK (by rw [hT]; exact hcB) hoB hclB hg (hsize.trans hml.symm) (argsL := As) (rest := rest) (fun sig h => hn.trans (hlen sig h)) hstack hW (by rw [hb]; exact hdg)
    (fun vm₁ hW₁ => ⟨hf.1, hf.2, hPc (T.setVm vm₁) hT hW₁⟩)
  dsimp only [Pt.U, Pt.locs, Pt.cells, Pt.slots] at X' e1 e2 h1 h2 h3 st
  subst h1; subst h2; subst h3
  exact ⟨v, (T.setVm vm₁).calling g' mk (Value.ref b :: As).toArray, t, U', L, hT, X', hL, e1, e2, hq, st⟩
section
variable {y : MethodName} {bytes cc : ByteArray} {maxL nL mc ms n index : Nat} {ret : Option FieldType} {ws : List Cond} {rm : Room} {Pc : Array Value → State → Prop} {Qc : Array Value → State → Outcome → State → Prop} {XC : String → State → State → Prop} {free : Addr → Prop} {Ts : List Cond} {own C : String} {b : Addr} {As rest : List Value} {g : JFrame}
theorem vx_runVX {hh : List (Nat × Nat × Nat × Nat)} (S : CallFix p m c cc nL s args Ts own) (hM : vx_Met l y ws rm Pc Qc XC mc ms free) (cw : vx_CVW R s args own C index y bytes maxL ret hh ws rm mc ms n) (hp : PreV s H C b Pc As)
    (hg : g.method = m) (hn : As.length = n) (hsize : g.locals.size = nL) (hstack : g.stack = As.reverse ++ .ref b :: rest) (hW : 2 * g.monitorRoom + (rest.map fun v => v.category).sum ≤ 8) (hdg : decode cc g.pc = .ok (.invokevirtual index, 3)) (hf : cells + mc ≤ R.cells ∧ slots + ms ≤ R.slots) :
    vx_Run p l e R s m args below meth c H locs cells slots mc ms g rest (Qc (Value.ref b :: As).toArray) XC free := by
  obtain ⟨⟨hrc, hrs, hfr, hlo, hws, hcw⟩, hcode, hini, hy, hlen, hl, hin, hse⟩ := cw
  have hK : vx_Back l R p e below s args y 3 8 (PreOf R mc ms Pc) (PostOf Qc mc ms free) (vx_Post XC mc ms free) := vx_backW (hh := hh) (bytes := bytes) (maxL := maxL) (ret := ret) hM hp.1 hrc hrs hfr hlo hws hcw (fun a' U hW => word_at hW (Or.inl (by first | rfl | simp [Cond.onTables, Cond.keeps, Cond.steady])) hini)
  obtain ⟨hx, hb, hml, ho, -⟩ := S
  obtain ⟨-, ⟨cellB, hcB, hoB, hclB⟩, hPc⟩ := hp
  intro T hT X
  rcases vx_callVX X hx (C := C) (hh := hh) (bytes := bytes) (maxL := maxL) (ret := ret) ho hl hin hse hcode hy hK (by rw [hT]; exact hcB) hoB hclB hg (hsize.trans hml.symm) (argsL := As) (rest := rest) (fun sig h => hn.trans (hlen sig h)) hstack hW (by rw [hb]; exact hdg)
    (fun vm₁ hW₁ => ⟨hf.1, hf.2, hPc (T.setVm vm₁) hT hW₁⟩) with ⟨v, vm₁, ⟨U', l2, c2, s2⟩, hW₁, X', ⟨g', mk, t, L, e1, e2, hq, h1, hL, h2, h3⟩, st⟩ | ⟨q, vm₁, ⟨U', l2, c2, s2⟩, hW₁, X', ⟨g', mk, t, L, E, ce, e1, e2, hq, hce, hcv, hcl, h1, hL, h2, h3⟩, st⟩
  · dsimp only [Pt.U, Pt.locs, Pt.cells, Pt.slots] at X' e1 e2 h1 h2 h3 st
    subst h1; subst h2; subst h3
    exact Or.inl ⟨v, (T.setVm vm₁).calling g' mk (Value.ref b :: As).toArray, t, U', L, hT, X', hL, e1, e2, hq, st⟩
  · dsimp only [Pt.U, Pt.locs, Pt.cells, Pt.slots] at X' e1 e2 h1 h2 h3 st hcl
    subst h1; subst h2; subst h3
    exact Or.inr ⟨q, (T.setVm vm₁).calling g' mk (Value.ref b :: As).toArray, t, U', L, E, ce, hT, X', hL, e1, e2, hq, hce, hcv, vx_cls hW₁ hcl, st⟩
theorem vx_runSX {hh : List (Nat × Nat × Nat × Nat)} (S : CallFix p m c cc nL s args Ts own) (hM : vx_Met l y ws rm Pc Qc XC mc ms free) (cw : vx_CSW R s args own index y bytes maxL ret hh ws rm mc ms n) (hp : PreS s H Pc As)
    (hg : g.method = m) (hn : As.length = n) (hsize : g.locals.size = nL) (hstack : g.stack = As.reverse ++ rest) (hW : 2 * g.monitorRoom + (rest.map fun v => v.category).sum ≤ 8) (hdg : decode cc g.pc = .ok (.invokestatic index, 3)) (hf : cells + mc ≤ R.cells ∧ slots + ms ≤ R.slots) :
    vx_Run p l e R s m args below meth c H locs cells slots mc ms g rest (Qc As.toArray) XC free := by
  obtain ⟨⟨hrc, hrs, hfr, hlo, hws, hcw⟩, hcode, hini, hy, hlen, hl, hstt⟩ := cw
  have hK : vx_Back l R p e below s args y 3 8 (PreOf R mc ms Pc) (PostOf Qc mc ms free) (vx_Post XC mc ms free) := vx_backW (hh := hh) (bytes := bytes) (maxL := maxL) (ret := ret) hM hp.1 hrc hrs hfr hlo hws hcw (fun a' U hW => word_at hW (Or.inl (by first | rfl | simp [Cond.onTables, Cond.keeps, Cond.steady])) hini)
  obtain ⟨hx, hb, hml, ho, -⟩ := S
  intro T hT X
  rcases vx_callSX X hx (hh := hh) (bytes := bytes) (maxL := maxL) (ret := ret) ho hl hstt hini hcode hy hK hg (hsize.trans hml.symm) (argsL := As) (rest := rest) (fun sig h => hn.trans (hlen sig h)) hstack hW (by rw [hb]; exact hdg)
    (fun vm₁ hW₁ => ⟨hf.1, hf.2, hp.2 (T.setVm vm₁) hT hW₁⟩) with ⟨v, vm₁, ⟨U', l2, c2, s2⟩, hW₁, X', ⟨g', mk, t, L, e1, e2, hq, h1, hL, h2, h3⟩, st⟩ | ⟨q, vm₁, ⟨U', l2, c2, s2⟩, hW₁, X', ⟨g', mk, t, L, E, ce, e1, e2, hq, hce, hcv, hcl, h1, hL, h2, h3⟩, st⟩
  · dsimp only [Pt.U, Pt.locs, Pt.cells, Pt.slots] at X' e1 e2 h1 h2 h3 st
    subst h1; subst h2; subst h3
    exact Or.inl ⟨v, (T.setVm vm₁).calling g' mk As.toArray, t, U', L, hT, X', hL, e1, e2, hq, st⟩
  · dsimp only [Pt.U, Pt.locs, Pt.cells, Pt.slots] at X' e1 e2 h1 h2 h3 st hcl
    subst h1; subst h2; subst h3
    exact Or.inr ⟨q, (T.setVm vm₁).calling g' mk As.toArray, t, U', L, E, ce, hT, X', hL, e1, e2, hq, hce, hcv, vx_cls hW₁ hcl, st⟩
end
end VXH
theorem vx_ofWH {l : Launch} {y : MethodName} {ws ws' : List Cond} {rm : Room} {Pc : Array Value → State → Prop} {Qc : Array Value → State → Outcome → State → Prop} {XC : String → State → State → Prop} {mc ms : Nat} {free : Addr → Prop} {cc : ByteArray} {maxL : Nat} {ret : Option FieldType} {hh : List (Nat × Nat × Nat × Nat)}
    (hy : plainName y.cls = true) (hw : ws = Cond.codeWith y cc maxL ret hh :: ws')
    (body : ∀ p e s m args below meth c s₁, BodyLoose p l y (headSpec ws rm) cc maxL ret e s m args below meth c s₁ → c.maxLocals = maxL → Pc args s →
      W p l e (headSpec ws rm).room s m args below meth c s.heap [] 0 0 (vx_MQ below Qc XC args s mc ms free) (entryFrame m args maxL)) : vx_Met l y ws rm Pc Qc XC mc ms free := by
  refine MetFree.of_bodyS (code := cc) (maxLocals := maxL) (ret := ret) hy ?_ ?_
  · intro args s m h hn
    obtain ⟨m9, meth, c, hn9, h1, h2, h3, h4, -, h5, h6, -⟩ := Cond.codeWith_spec (atoms_spec (ws := ws) h _ (by rw [hw]; exact List.mem_cons_self))
    cases hn.symm.trans hn9
    exact ⟨meth, c, h1, h2, h3, h4, h5, h6⟩
  · intro p e s m args below meth c s₁ B hml hP _
    have hh0 : s₁.heap = s.heap := by rw [B.state]; rfl
    obtain ⟨t, a1, o, b1, b2, b3⟩ := body p e s m args below meth c s₁ B hml hP s₁ hh0 (Stand.of_body B)
    exact ⟨t, o, a1, b1, b2, b3⟩
/-! ===== END ===== -/

/-! ===== BEGIN a private method of a nest mate that may throw (follows va_callVN, va_callSN, va_runVN, va_runSN) ===== -/
section
variable {p : Program} {l : Launch} {e : Env} {R : Room} {s : State} {m : MethodId} {args : Array Value} {below : List Frame} {meth : Method} {c : Code} {H : Heap} {locs : List Loc} {cells slots : Nat}
variable {T : State}
theorem vx_callVN (X : Stand p l e R s m args below meth c T locs cells slots) (hexec : p.tables.exec = Jvm.exec) {own C : String} {index : Nat} {host : String} {y : MethodName} {bytes : ByteArray} {maxL : Nat} {ret : Option FieldType}
    (hown : s.vm.findClass own = some m.cls) (hlink : (Cond.methodLinkNest own index y host).before args s = true) (hinst : (Cond.instanceMethod y).before args s = true) (hsel : (Cond.selects C y y).before args s = true)
    (hcode : (Cond.code y bytes maxL ret).before args s = true) (hy : y.cls ≠ "java/lang/invoke/MethodHandle" ∧ y.cls ≠ "java/lang/invoke/VarHandle")
    {W : Nat} {Pre : Pt → Array Value → Prop} {Post : Pt → Array Value → Option Value → Pt → Prop} {PostX : Pt → Array Value → Addr → Pt → Prop} (hK : vx_Back l R p e below s args y 3 W Pre Post PostX)
    {b : Addr} {cellB : Cell} (hcell : T.heap[b]? = some cellB) (hobj : cellB.vm.isStatics = false) (hcls : s.vm.findClass C = some cellB.cls)
    {g : JFrame} (hg : g.method = m) (hsize : g.locals.size = c.maxLocals) {argsL rest : List Value} (hlen : ∀ sig, parseMethodDescriptor y.desc = some sig → argsL.length = sig.parameters.length)
    (hstack : g.stack = argsL.reverse ++ .ref b :: rest) (hW : 2 * g.monitorRoom + (rest.map fun v => v.category).sum ≤ W) (hdg : decode c.code g.pc = .ok (.invokevirtual index, 3))
    (hpre : ∀ vm₁, s.WarmedH vm₁ → Pre ⟨T.setVm vm₁, locs, cells, slots⟩ (Value.ref b :: argsL).toArray) :
    (∃ (v : Option Value) (vm₁ : Vm) (B : Pt), s.WarmedH vm₁ ∧ Stand p l e R s m args below meth c B.U B.locs B.cells B.slots ∧ Post ⟨T.setVm vm₁, locs, cells, slots⟩ (Value.ref b :: argsL).toArray v B ∧
      ∀ target, Steps p.tables e below (B.U.setTop { g with pc := g.pc + 3, stack := v.toList ++ rest }) target → Steps p.tables e below (T.setTop g) target) ∨
    (∃ (q : Addr) (vm₁ : Vm) (B : Pt), s.WarmedH vm₁ ∧ Stand p l e R s m args below meth c B.U B.locs B.cells B.slots ∧ PostX ⟨T.setVm vm₁, locs, cells, slots⟩ (Value.ref b :: argsL).toArray q B ∧
      Steps p.tables e below (T.setTop g) ((B.U.setTop { g with stack := rest }).pushFrame (.throwing q))) := by
  obtain ⟨mk, methM, hnamed, hmethM, hstM, habM⟩ := Cond.instanceMethod_spec hinst
  obtain ⟨methM', cM, hmethM', -, -, -, -, -, -, hsigM⟩ := Cond.code_spec hnamed hcode
  cases hmethM.symm.trans hmethM'
  obtain ⟨c2, r2, m2, q1, q2, q3, q4, kP, hkP, hkPi⟩ := Cond.selects_spec hsel
  cases hcls.symm.trans q1
  cases (State.methodFound?_of_named hnamed hy).symm.trans q2
  cases hnamed.symm.trans q3
  have hselP : selectMethod e.platform s.vm cellB.cls mk = .method mk := by rw [Launch.admits_selectMethod X.admits]; exact q4
  obtain ⟨vm₁, X₁, hstep₁⟩ := X.invokevirtualNest hexec hown hlink hnamed hmethM hstM hkP hkPi hy (a := b) (cell := cellB) hcell
    (fun z h => by rw [h] at hobj; cases hobj) hselP hmethM habM hkP hkPi (g := g) hg (argsL := argsL) (rest := rest) (hlen _ hsigM) hstack hdg
  rcases hK m meth c ⟨T.setVm vm₁, locs, cells, slots⟩ { g with stack := rest } (.invokevirtual index) mk (Value.ref b :: argsL).toArray X₁ hg hsize hdg hW (X₁.named hnamed) (hpre vm₁ X₁.warmed) with ⟨v, B, X', hpost, hsteps⟩ | ⟨q, B, X', hpost, hsteps⟩
  · exact Or.inl ⟨v, vm₁, B, X₁.warmed, X', hpost, fun target h => hstep₁ _ fun acts => by rw [doInvoke_state]; exact hsteps.trans h⟩
  · exact Or.inr ⟨q, vm₁, B, X₁.warmed, X', hpost, hstep₁ _ fun acts => by rw [doInvoke_state]; exact hsteps⟩
theorem vx_callSN (X : Stand p l e R s m args below meth c T locs cells slots) (hexec : p.tables.exec = Jvm.exec) {own : String} {index : Nat} {host : String} {y : MethodName} {bytes : ByteArray} {maxL : Nat} {ret : Option FieldType}
    (hown : s.vm.findClass own = some m.cls) (hlink : (Cond.methodLinkNest own index y host).before args s = true) (hstat : (Cond.static y).before args s = true) (hinit : (Cond.initialized y.cls).before args s = true)
    (hcode : (Cond.code y bytes maxL ret).before args s = true) (hy : y.cls ≠ "java/lang/invoke/MethodHandle" ∧ y.cls ≠ "java/lang/invoke/VarHandle")
    {W : Nat} {Pre : Pt → Array Value → Prop} {Post : Pt → Array Value → Option Value → Pt → Prop} {PostX : Pt → Array Value → Addr → Pt → Prop} (hK : vx_Back l R p e below s args y 3 W Pre Post PostX)
    {g : JFrame} (hg : g.method = m) (hsize : g.locals.size = c.maxLocals) {argsL rest : List Value} (hlen : ∀ sig, parseMethodDescriptor y.desc = some sig → argsL.length = sig.parameters.length)
    (hstack : g.stack = argsL.reverse ++ rest) (hW : 2 * g.monitorRoom + (rest.map fun v => v.category).sum ≤ W) (hdg : decode c.code g.pc = .ok (.invokestatic index, 3))
    (hpre : ∀ vm₁, s.WarmedH vm₁ → Pre ⟨T.setVm vm₁, locs, cells, slots⟩ argsL.toArray) :
    (∃ (v : Option Value) (vm₁ : Vm) (B : Pt), s.WarmedH vm₁ ∧ Stand p l e R s m args below meth c B.U B.locs B.cells B.slots ∧ Post ⟨T.setVm vm₁, locs, cells, slots⟩ argsL.toArray v B ∧
      ∀ target, Steps p.tables e below (B.U.setTop { g with pc := g.pc + 3, stack := v.toList ++ rest }) target → Steps p.tables e below (T.setTop g) target) ∨
    (∃ (q : Addr) (vm₁ : Vm) (B : Pt), s.WarmedH vm₁ ∧ Stand p l e R s m args below meth c B.U B.locs B.cells B.slots ∧ PostX ⟨T.setVm vm₁, locs, cells, slots⟩ argsL.toArray q B ∧
      Steps p.tables e below (T.setTop g) ((B.U.setTop { g with stack := rest }).pushFrame (.throwing q))) := by
  obtain ⟨mk, hnamed⟩ := Cond.code_named hcode
  obtain ⟨methM, cM, hmethM, -, -, -, -, -, -, hsigM⟩ := Cond.code_spec hnamed hcode
  have hstatic : methM.isStatic = true := Cond.static_spec hnamed hmethM hstat
  obtain ⟨kP, hkP, -⟩ := className_of_methodNamed hnamed
  have hinitP : kP.init = .initialized := Cond.initialized_spec (findClass_of_methodNamed hnamed) hkP hinit
  obtain ⟨vm₁, X₁, hstep₁⟩ := X.invokestaticNest hexec hown hlink hnamed hmethM hstatic hkP hinitP hy (g := g) hg (argsL := argsL) (rest := rest) (hlen _ hsigM) hstack hdg
  rcases hK m meth c ⟨T.setVm vm₁, locs, cells, slots⟩ { g with stack := rest } (.invokestatic index) mk argsL.toArray X₁ hg hsize hdg hW (X₁.named hnamed) (hpre vm₁ X₁.warmed) with ⟨v, B, X', hpost, hsteps⟩ | ⟨q, B, X', hpost, hsteps⟩
  · exact Or.inl ⟨v, vm₁, B, X₁.warmed, X', hpost, fun target h => hstep₁ _ fun acts => by rw [doInvoke_state]; exact hsteps.trans h⟩
  · exact Or.inr ⟨q, vm₁, B, X₁.warmed, X', hpost, hstep₁ _ fun acts => by rw [doInvoke_state]; exact hsteps⟩
theorem vx_runVN {y : MethodName} {bytes cc : ByteArray} {maxL nL mc ms n index : Nat} {ret : Option FieldType} {ws : List Cond} {rm : Room} {Pc : Array Value → State → Prop} {Qc : Array Value → State → Outcome → State → Prop} {XC : String → State → State → Prop} {free : Addr → Prop} {Ts : List Cond} {own C host : String} {b : Addr} {As rest : List Value} {g : JFrame}
    (S : CallFix p m c cc nL s args Ts own) (hM : vx_Met l y ws rm Pc Qc XC mc ms free) (cw : va_CN R s args own index y host bytes maxL ret ws rm mc ms n ∧ (Cond.instanceMethod y).before args s = true ∧ (Cond.selects C y y).before args s = true) (hp : PreV s H C b Pc As)
    (hg : g.method = m) (hn : As.length = n) (hsize : g.locals.size = nL) (hstack : g.stack = As.reverse ++ .ref b :: rest) (hW : 2 * g.monitorRoom + (rest.map fun v => v.category).sum ≤ 8) (hdg : decode cc g.pc = .ok (.invokevirtual index, 3)) (hf : cells + mc ≤ R.cells ∧ slots + ms ≤ R.slots) :
    vx_Run p l e R s m args below meth c H locs cells slots mc ms g rest (Qc (Value.ref b :: As).toArray) XC free := by
  obtain ⟨⟨⟨hrc, hrs, hfr, hlo, hws, hcw⟩, hcode, hini, hy, hlen, hl⟩, hx1, hx2⟩ := cw
  have hK : vx_Back l R p e below s args y 3 8 (PreOf R mc ms Pc) (PostOf Qc mc ms free) (vx_Post XC mc ms free) := vx_back (bytes := bytes) (maxL := maxL) (ret := ret) hM hp.1 hrc hrs hfr hlo hws hcw (fun a' U hW => word_at hW (Or.inl (by first | rfl | simp [Cond.onTables, Cond.keeps, Cond.steady])) hini)
  obtain ⟨hx, hb, hml, ho, -⟩ := S
  obtain ⟨-, ⟨cellB, hcB, hoB, hclB⟩, hPc⟩ := hp
  intro T hT X
  rcases vx_callVN X hx (C := C) (bytes := bytes) (maxL := maxL) (ret := ret) ho hl hx1 hx2 hcode hy hK (by rw [hT]; exact hcB) hoB hclB hg (hsize.trans hml.symm) (argsL := As) (rest := rest) (fun sig h => hn.trans (hlen sig h)) hstack hW (by rw [hb]; exact hdg)
    (fun vm₁ hW₁ => ⟨hf.1, hf.2, hPc (T.setVm vm₁) hT hW₁⟩) with ⟨v, vm₁, ⟨U', l2, c2, s2⟩, hW₁, X', ⟨g', mk, t, L, e1, e2, hq, h1, hL, h2, h3⟩, st⟩ | ⟨q, vm₁, ⟨U', l2, c2, s2⟩, hW₁, X', ⟨g', mk, t, L, E, ce, e1, e2, hq, hce, hcv, hcl, h1, hL, h2, h3⟩, st⟩
  · dsimp only [Pt.U, Pt.locs, Pt.cells, Pt.slots] at X' e1 e2 h1 h2 h3 st
    subst h1; subst h2; subst h3
    exact Or.inl ⟨v, (T.setVm vm₁).calling g' mk (Value.ref b :: As).toArray, t, U', L, hT, X', hL, e1, e2, hq, st⟩
  · dsimp only [Pt.U, Pt.locs, Pt.cells, Pt.slots] at X' e1 e2 h1 h2 h3 st hcl
    subst h1; subst h2; subst h3
    exact Or.inr ⟨q, (T.setVm vm₁).calling g' mk (Value.ref b :: As).toArray, t, U', L, E, ce, hT, X', hL, e1, e2, hq, hce, hcv, vx_cls hW₁ hcl, st⟩
theorem vx_runSN {y : MethodName} {bytes cc : ByteArray} {maxL nL mc ms n index : Nat} {ret : Option FieldType} {ws : List Cond} {rm : Room} {Pc : Array Value → State → Prop} {Qc : Array Value → State → Outcome → State → Prop} {XC : String → State → State → Prop} {free : Addr → Prop} {Ts : List Cond} {own host : String} {As rest : List Value} {g : JFrame}
    (S : CallFix p m c cc nL s args Ts own) (hM : vx_Met l y ws rm Pc Qc XC mc ms free) (cw : va_CN R s args own index y host bytes maxL ret ws rm mc ms n ∧ (Cond.static y).before args s = true ∧ True) (hp : PreS s H Pc As)
    (hg : g.method = m) (hn : As.length = n) (hsize : g.locals.size = nL) (hstack : g.stack = As.reverse ++ rest) (hW : 2 * g.monitorRoom + (rest.map fun v => v.category).sum ≤ 8) (hdg : decode cc g.pc = .ok (.invokestatic index, 3)) (hf : cells + mc ≤ R.cells ∧ slots + ms ≤ R.slots) :
    vx_Run p l e R s m args below meth c H locs cells slots mc ms g rest (Qc As.toArray) XC free := by
  obtain ⟨⟨⟨hrc, hrs, hfr, hlo, hws, hcw⟩, hcode, hini, hy, hlen, hl⟩, hx1, hx2⟩ := cw
  have hK : vx_Back l R p e below s args y 3 8 (PreOf R mc ms Pc) (PostOf Qc mc ms free) (vx_Post XC mc ms free) := vx_back (bytes := bytes) (maxL := maxL) (ret := ret) hM hp.1 hrc hrs hfr hlo hws hcw (fun a' U hW => word_at hW (Or.inl (by first | rfl | simp [Cond.onTables, Cond.keeps, Cond.steady])) hini)
  obtain ⟨hx, hb, hml, ho, -⟩ := S
  have hPc := hp.2
  intro T hT X
  rcases vx_callSN X hx (bytes := bytes) (maxL := maxL) (ret := ret) ho hl hx1 hini hcode hy hK hg (hsize.trans hml.symm) (argsL := As) (rest := rest) (fun sig h => hn.trans (hlen sig h)) hstack hW (by rw [hb]; exact hdg)
    (fun vm₁ hW₁ => ⟨hf.1, hf.2, hPc (T.setVm vm₁) hT hW₁⟩) with ⟨v, vm₁, ⟨U', l2, c2, s2⟩, hW₁, X', ⟨g', mk, t, L, e1, e2, hq, h1, hL, h2, h3⟩, st⟩ | ⟨q, vm₁, ⟨U', l2, c2, s2⟩, hW₁, X', ⟨g', mk, t, L, E, ce, e1, e2, hq, hce, hcv, hcl, h1, hL, h2, h3⟩, st⟩
  · dsimp only [Pt.U, Pt.locs, Pt.cells, Pt.slots] at X' e1 e2 h1 h2 h3 st
    subst h1; subst h2; subst h3
    exact Or.inl ⟨v, (T.setVm vm₁).calling g' mk As.toArray, t, U', L, hT, X', hL, e1, e2, hq, st⟩
  · dsimp only [Pt.U, Pt.locs, Pt.cells, Pt.slots] at X' e1 e2 h1 h2 h3 st hcl
    subst h1; subst h2; subst h3
    exact Or.inr ⟨q, (T.setVm vm₁).calling g' mk As.toArray, t, U', L, E, ce, hT, X', hL, e1, e2, hq, hce, hcv, vx_cls hW₁ hcl, st⟩
end
/-! ===== END ===== -/
end
section
/-! ===== BEGIN printed: names, fields, word lists, decode rows ===== -/
def RX0 : String := "Entitled$Entitlement"
def TX0 : u_T := fun k => match k with
  | 0 => ("Entitled$Entitlement", "products", "I", false)
  | 1 => ("Entitled$Entitlement", "version", "I", false)
  | 2 => ("Entitled$Entitlement", "edition", "I", false)
  | 3 => ("Entitled$Entitlement", "metric", "C", false)
  | 4 => ("Entitled$Entitlement", "units", "I", false)
  | 5 => ("Entitled$Entitlement", "pool", "I", false)
  | 6 => ("Entitled$Entitlement", "minimum", "I", false)
  | 7 => ("Entitled$Entitlement", "price", "I", false)
  | 8 => ("Entitled$Entitlement", "down", "Z", false)
  | 9 => ("Entitled$Entitlement", "up", "Z", false)
  | 10 => ("Entitled$Entitlement", "second", "Z", false)
  | 11 => ("Entitled$Entitlement", "served", "[I", true)
  | _ => ("Entitled$Entitlement", "needed", "I", false)
def tyX0 : Nat → FieldType := fun k => match k with
  | 0 => .int
  | 1 => .int
  | 2 => .int
  | 3 => .char
  | 4 => .int
  | 5 => .int
  | 6 => .int
  | 7 => .int
  | 8 => .boolean
  | 9 => .boolean
  | 10 => .boolean
  | 11 => .array .int
  | _ => .int
theorem nmX0 : ∀ a, a < 13 → ∀ b, b < 13 → a ≠ b → (TX0 a).2.1 ≠ (TX0 b).2.1 := by decide +kernel
theorem tyX0_ok : ∀ k, k < 13 → parseFieldDescriptor (TX0 k).2.2.1 = some (tyX0 k) := by decide +kernel
abbrev cX0_init : ByteArray := prog_2_method_1_code
def yX0_init : MethodName := ⟨RX0, "<init>", "()V"⟩
abbrev cX0_fill : ByteArray := prog_2_method_2_code
def yX0_fill : MethodName := ⟨RX0, "fill", "(IIICII)V"⟩
abbrev cX0_countRights : ByteArray := prog_2_method_3_code
def yX0_countRights : MethodName := ⟨RX0, "countRights", "()I"⟩
abbrev cX0_fits : ByteArray := prog_2_method_4_code
def yX0_fits : MethodName := ⟨RX0, "fits", "(LEntitled$Install;)Z"⟩
abbrev cX0_misfit : ByteArray := prog_2_method_5_code
def yX0_misfit : MethodName := ⟨RX0, "misfit", "(LEntitled$Install;)C"⟩
abbrev cX0_clearNeed : ByteArray := prog_2_method_6_code
def yX0_clearNeed : MethodName := ⟨RX0, "clearNeed", "()V"⟩
abbrev cX0_serve : ByteArray := prog_2_method_7_code
def yX0_serve : MethodName := ⟨RX0, "serve", "(LEntitled$Install;)V"⟩
abbrev cX0_release : ByteArray := prog_2_method_8_code
def yX0_release : MethodName := ⟨RX0, "release", "(LEntitled$Install;)V"⟩
abbrev cX0_changeNeed : ByteArray := prog_2_method_9_code
def yX0_changeNeed : MethodName := ⟨RX0, "changeNeed", "(LEntitled$Install;I)V"⟩
abbrev cX0_unitsOfHolder : ByteArray := prog_2_method_10_code
def yX0_unitsOfHolder : MethodName := ⟨RX0, "unitsOfHolder", "(I)I"⟩
abbrev cX0_missing : ByteArray := prog_2_method_11_code
def yX0_missing : MethodName := ⟨RX0, "missing", "()I"⟩
abbrev cX0_missingPrice : ByteArray := prog_2_method_12_code
def yX0_missingPrice : MethodName := ⟨RX0, "missingPrice", "()I"⟩
def RX1 : String := "Entitled$Install"
def TX1 : u_T := fun k => match k with
  | 0 => ("Entitled$Install", "there", "Z", false)
  | 1 => ("Entitled$Install", "product", "I", false)
  | 2 => ("Entitled$Install", "version", "I", false)
  | 3 => ("Entitled$Install", "edition", "I", false)
  | 4 => ("Entitled$Install", "device", "I", false)
  | 5 => ("Entitled$Install", "user", "I", false)
  | 6 => ("Entitled$Install", "cores", "I", false)
  | _ => ("Entitled$Install", "pool", "I", false)
def tyX1 : Nat → FieldType := fun k => match k with
  | 0 => .boolean
  | 1 => .int
  | 2 => .int
  | 3 => .int
  | 4 => .int
  | 5 => .int
  | 6 => .int
  | _ => .int
theorem nmX1 : ∀ a, a < 8 → ∀ b, b < 8 → a ≠ b → (TX1 a).2.1 ≠ (TX1 b).2.1 := by decide +kernel
theorem tyX1_ok : ∀ k, k < 8 → parseFieldDescriptor (TX1 k).2.2.1 = some (tyX1 k) := by decide +kernel
abbrev cX1_init : ByteArray := prog_3_method_1_code
def yX1_init : MethodName := ⟨RX1, "<init>", "()V"⟩
abbrev cX1_fill : ByteArray := prog_3_method_2_code
def yX1_fill : MethodName := ⟨RX1, "fill", "(IIIIIII)V"⟩
def RX2 : String := "Entitled"
def TX2 : u_T := fun k => match k with
  | 0 => ("Entitled", "installs", "[LEntitled$Install;", true)
  | 1 => ("Entitled", "entitlements", "[LEntitled$Entitlement;", true)
  | 2 => ("Entitled", "madeCount", "I", false)
  | 3 => ("Entitled", "thereCount", "I", false)
  | 4 => ("Entitled", "entitlementCount", "I", false)
  | 5 => ("Entitled", "spentSum", "J", false)
  | 6 => ("Entitled", "given", "[I", true)
  | 7 => ("Entitled", "best", "[I", true)
  | 8 => ("Entitled", "coverableFrom", "[I", true)
  | _ => ("Entitled", "bestValue", "I", false)
def tyX2 : Nat → FieldType := fun k => match k with
  | 0 => .array (.object "Entitled$Install")
  | 1 => .array (.object "Entitled$Entitlement")
  | 2 => .int
  | 3 => .int
  | 4 => .int
  | 5 => .long
  | 6 => .array .int
  | 7 => .array .int
  | 8 => .array .int
  | _ => .int
theorem nmX2 : ∀ a, a < 10 → ∀ b, b < 10 → a ≠ b → (TX2 a).2.1 ≠ (TX2 b).2.1 := by decide +kernel
theorem tyX2_ok : ∀ k, k < 10 → parseFieldDescriptor (TX2 k).2.2.1 = some (tyX2 k) := by decide +kernel
abbrev cX2_init : ByteArray := prog_1_method_1_code
def yX2_init : MethodName := ⟨RX2, "<init>", "()V"⟩
abbrev cX2_install : ByteArray := prog_1_method_2_code
def yX2_install : MethodName := ⟨RX2, "install", "(IIIIIII)I"⟩
abbrev cX2_retire : ByteArray := prog_1_method_3_code
def yX2_retire : MethodName := ⟨RX2, "retire", "(I)I"⟩
abbrev cX2_moveTo : ByteArray := prog_1_method_4_code
def yX2_moveTo : MethodName := ⟨RX2, "moveTo", "(III)I"⟩
abbrev cX2_setVersion : ByteArray := prog_1_method_5_code
def yX2_setVersion : MethodName := ⟨RX2, "setVersion", "(III)I"⟩
abbrev cX2_setPool : ByteArray := prog_1_method_6_code
def yX2_setPool : MethodName := ⟨RX2, "setPool", "(II)I"⟩
abbrev cX2_installs : ByteArray := prog_1_method_7_code
def yX2_installs : MethodName := ⟨RX2, "installs", "()I"⟩
abbrev cX2_isThere : ByteArray := prog_1_method_8_code
def yX2_isThere : MethodName := ⟨RX2, "isThere", "(I)Z"⟩
abbrev cX2_entitle : ByteArray := prog_1_method_9_code
def yX2_entitle : MethodName := ⟨RX2, "entitle", "(IIICII)I"⟩
abbrev cX2_setRights : ByteArray := prog_1_method_10_code
def yX2_setRights : MethodName := ⟨RX2, "setRights", "(IZZZ)I"⟩
abbrev cX2_setMinimum : ByteArray := prog_1_method_11_code
def yX2_setMinimum : MethodName := ⟨RX2, "setMinimum", "(II)I"⟩
abbrev cX2_setPrice : ByteArray := prog_1_method_12_code
def yX2_setPrice : MethodName := ⟨RX2, "setPrice", "(II)I"⟩
abbrev cX2_addUnits : ByteArray := prog_1_method_13_code
def yX2_addUnits : MethodName := ⟨RX2, "addUnits", "(II)I"⟩
abbrev cX2_units : ByteArray := prog_1_method_14_code
def yX2_units : MethodName := ⟨RX2, "units", "(I)I"⟩
abbrev cX2_why : ByteArray := prog_1_method_15_code
def yX2_why : MethodName := ⟨RX2, "why", "(II)C"⟩
abbrev cX2_fitting : ByteArray := prog_1_method_16_code
def yX2_fitting : MethodName := ⟨RX2, "fitting", "(I)I"⟩
abbrev cX2_firstFitting : ByteArray := prog_1_method_17_code
def yX2_firstFitting : MethodName := ⟨RX2, "firstFitting", "(I)I"⟩
abbrev cX2_unitsForAll : ByteArray := prog_1_method_18_code
def yX2_unitsForAll : MethodName := ⟨RX2, "unitsForAll", "(I)I"⟩
abbrev cX2_covered : ByteArray := prog_1_method_19_code
def yX2_covered : MethodName := ⟨RX2, "covered", "()I"⟩
abbrev cX2_coveredByTrying : ByteArray := prog_1_method_20_code
def yX2_coveredByTrying : MethodName := ⟨RX2, "coveredByTrying", "()I"⟩
abbrev cX2_entitlementOf : ByteArray := prog_1_method_21_code
def yX2_entitlementOf : MethodName := ⟨RX2, "entitlementOf", "(I)I"⟩
abbrev cX2_reason : ByteArray := prog_1_method_22_code
def yX2_reason : MethodName := ⟨RX2, "reason", "(I)C"⟩
abbrev cX2_used : ByteArray := prog_1_method_23_code
def yX2_used : MethodName := ⟨RX2, "used", "(I)I"⟩
abbrev cX2_spare : ByteArray := prog_1_method_24_code
def yX2_spare : MethodName := ⟨RX2, "spare", "(I)I"⟩
abbrev cX2_purchase : ByteArray := prog_1_method_25_code
def yX2_purchase : MethodName := ⟨RX2, "purchase", "()I"⟩
abbrev cX2_purchaseByTrying : ByteArray := prog_1_method_26_code
def yX2_purchaseByTrying : MethodName := ⟨RX2, "purchaseByTrying", "()I"⟩
abbrev cX2_toBuy : ByteArray := prog_1_method_27_code
def yX2_toBuy : MethodName := ⟨RX2, "toBuy", "(I)I"⟩
abbrev cX2_trueUp : ByteArray := prog_1_method_28_code
def yX2_trueUp : MethodName := ⟨RX2, "trueUp", "()I"⟩
abbrev cX2_spent : ByteArray := prog_1_method_29_code
def yX2_spent : MethodName := ⟨RX2, "spent", "()J"⟩
abbrev cX2_coverage : ByteArray := prog_1_method_30_code
def yX2_coverage : MethodName := ⟨RX2, "coverage", "()F"⟩
abbrev cX2_isBetween : ByteArray := prog_1_method_31_code
def yX2_isBetween : MethodName := ⟨RX2, "isBetween", "(III)Z"⟩
abbrev cX2_isRelease : ByteArray := prog_1_method_32_code
def yX2_isRelease : MethodName := ⟨RX2, "isRelease", "(II)Z"⟩
abbrev cX2_isHolder : ByteArray := prog_1_method_33_code
def yX2_isHolder : MethodName := ⟨RX2, "isHolder", "(I)Z"⟩
abbrev cX2_isPool : ByteArray := prog_1_method_34_code
def yX2_isPool : MethodName := ⟨RX2, "isPool", "(I)Z"⟩
abbrev cX2_isMetric : ByteArray := prog_1_method_35_code
def yX2_isMetric : MethodName := ⟨RX2, "isMetric", "(C)Z"⟩
abbrev cX2_installAt : ByteArray := prog_1_method_36_code
def yX2_installAt : MethodName := ⟨RX2, "installAt", "(I)LEntitled$Install;"⟩
abbrev cX2_entitlementAt : ByteArray := prog_1_method_37_code
def yX2_entitlementAt : MethodName := ⟨RX2, "entitlementAt", "(I)LEntitled$Entitlement;"⟩
abbrev cX2_countFitting : ByteArray := prog_1_method_38_code
def yX2_countFitting : MethodName := ⟨RX2, "countFitting", "(LEntitled$Install;)I"⟩
abbrev cX2_entitlementByCover : ByteArray := prog_1_method_39_code
def yX2_entitlementByCover : MethodName := ⟨RX2, "entitlementByCover", "(I)I"⟩
abbrev cX2_checkAllCanBeCovered : ByteArray := prog_1_method_40_code
def yX2_checkAllCanBeCovered : MethodName := ⟨RX2, "checkAllCanBeCovered", "()V"⟩
abbrev cX2_findCover : ByteArray := prog_1_method_41_code
def yX2_findCover : MethodName := ⟨RX2, "findCover", "()I"⟩
abbrev cX2_findPurchase : ByteArray := prog_1_method_42_code
def yX2_findPurchase : MethodName := ⟨RX2, "findPurchase", "()I"⟩
abbrev cX2_searchCover : ByteArray := prog_1_method_43_code
def yX2_searchCover : MethodName := ⟨RX2, "searchCover", "(LEntitled;II)V"⟩
abbrev cX2_searchPurchase : ByteArray := prog_1_method_44_code
def yX2_searchPurchase : MethodName := ⟨RX2, "searchPurchase", "(LEntitled;II)V"⟩
abbrev cX2_tryCovers : ByteArray := prog_1_method_45_code
def yX2_tryCovers : MethodName := ⟨RX2, "tryCovers", "(LEntitled;I)V"⟩
abbrev cX2_tryPurchases : ByteArray := prog_1_method_46_code
def yX2_tryPurchases : MethodName := ⟨RX2, "tryPurchases", "(LEntitled;I)V"⟩
abbrev cX2_clearSearch : ByteArray := prog_1_method_47_code
def yX2_clearSearch : MethodName := ⟨RX2, "clearSearch", "(I)V"⟩
abbrev cX2_clearNeeds : ByteArray := prog_1_method_48_code
def yX2_clearNeeds : MethodName := ⟨RX2, "clearNeeds", "()V"⟩
abbrev cX2_give : ByteArray := prog_1_method_49_code
def yX2_give : MethodName := ⟨RX2, "give", "(II)V"⟩
abbrev cX2_takeBack : ByteArray := prog_1_method_50_code
def yX2_takeBack : MethodName := ⟨RX2, "takeBack", "(II)V"⟩
abbrev cX2_keepAsBest : ByteArray := prog_1_method_51_code
def yX2_keepAsBest : MethodName := ⟨RX2, "keepAsBest", "(I)V"⟩
abbrev cX2_serveByBest : ByteArray := prog_1_method_52_code
def yX2_serveByBest : MethodName := ⟨RX2, "serveByBest", "()V"⟩
abbrev cX2_countGiven : ByteArray := prog_1_method_53_code
def yX2_countGiven : MethodName := ⟨RX2, "countGiven", "()I"⟩
abbrev cX2_isAllowed : ByteArray := prog_1_method_54_code
def yX2_isAllowed : MethodName := ⟨RX2, "isAllowed", "()Z"⟩
abbrev cX2_sumOfMissing : ByteArray := prog_1_method_55_code
def yX2_sumOfMissing : MethodName := ⟨RX2, "sumOfMissing", "()I"⟩
def RX3 : String := "EntitledModel"
def TX3 : u_T := fun k => match k with
  | 0 => ("EntitledModel", "thrown", "I", false)
  | 1 => ("EntitledModel", "made", "I", false)
  | 2 => ("EntitledModel", "there", "I", false)
  | 3 => ("EntitledModel", "entitled", "I", false)
  | 4 => ("EntitledModel", "best", "I", false)
  | 5 => ("EntitledModel", "spent", "J", false)
  | 6 => ("EntitledModel", "product", "[I", true)
  | 7 => ("EntitledModel", "version", "[I", true)
  | 8 => ("EntitledModel", "edition", "[I", true)
  | 9 => ("EntitledModel", "device", "[I", true)
  | 10 => ("EntitledModel", "user", "[I", true)
  | 11 => ("EntitledModel", "cores", "[I", true)
  | 12 => ("EntitledModel", "pool", "[I", true)
  | 13 => ("EntitledModel", "isRetired", "[Z", true)
  | 14 => ("EntitledModel", "down", "[Z", true)
  | 15 => ("EntitledModel", "up", "[Z", true)
  | 16 => ("EntitledModel", "second", "[Z", true)
  | 17 => ("EntitledModel", "products", "[I", true)
  | 18 => ("EntitledModel", "ofVersion", "[I", true)
  | 19 => ("EntitledModel", "ofEdition", "[I", true)
  | 20 => ("EntitledModel", "units", "[I", true)
  | 21 => ("EntitledModel", "ofPool", "[I", true)
  | 22 => ("EntitledModel", "minimum", "[I", true)
  | 23 => ("EntitledModel", "price", "[I", true)
  | 24 => ("EntitledModel", "metric", "[C", true)
  | 25 => ("EntitledModel", "has", "[I", true)
  | 26 => ("EntitledModel", "bestHas", "[I", true)
  | _ => ("EntitledModel", "count", "[I", true)
def tyX3 : Nat → FieldType := fun k => match k with
  | 0 => .int
  | 1 => .int
  | 2 => .int
  | 3 => .int
  | 4 => .int
  | 5 => .long
  | 6 => .array .int
  | 7 => .array .int
  | 8 => .array .int
  | 9 => .array .int
  | 10 => .array .int
  | 11 => .array .int
  | 12 => .array .int
  | 13 => .array .boolean
  | 14 => .array .boolean
  | 15 => .array .boolean
  | 16 => .array .boolean
  | 17 => .array .int
  | 18 => .array .int
  | 19 => .array .int
  | 20 => .array .int
  | 21 => .array .int
  | 22 => .array .int
  | 23 => .array .int
  | 24 => .array .char
  | 25 => .array .int
  | 26 => .array .int
  | _ => .array .int
theorem nmX3 : ∀ a, a < 28 → ∀ b, b < 28 → a ≠ b → (TX3 a).2.1 ≠ (TX3 b).2.1 := by decide +kernel
theorem tyX3_ok : ∀ k, k < 28 → parseFieldDescriptor (TX3 k).2.2.1 = some (tyX3 k) := by decide +kernel
abbrev cX3_init : ByteArray := prog_5_method_1_code
def yX3_init : MethodName := ⟨RX3, "<init>", "()V"⟩
abbrev cX3_thrown : ByteArray := prog_5_method_2_code
def yX3_thrown : MethodName := ⟨RX3, "thrown", "()I"⟩
abbrev cX3_fail : ByteArray := prog_5_method_3_code
def yX3_fail : MethodName := ⟨RX3, "fail", "(I)I"⟩
abbrev cX3_isIn : ByteArray := prog_5_method_4_code
def yX3_isIn : MethodName := ⟨RX3, "isIn", "(III)Z"⟩
abbrev cX3_noInstall : ByteArray := prog_5_method_5_code
def yX3_noInstall : MethodName := ⟨RX3, "noInstall", "(I)Z"⟩
abbrev cX3_noEntitlement : ByteArray := prog_5_method_6_code
def yX3_noEntitlement : MethodName := ⟨RX3, "noEntitlement", "(I)Z"⟩
abbrev cX3_install : ByteArray := prog_5_method_7_code
def yX3_install : MethodName := ⟨RX3, "install", "(IIIIIII)I"⟩
abbrev cX3_retire : ByteArray := prog_5_method_8_code
def yX3_retire : MethodName := ⟨RX3, "retire", "(I)I"⟩
abbrev cX3_moveTo : ByteArray := prog_5_method_9_code
def yX3_moveTo : MethodName := ⟨RX3, "moveTo", "(III)I"⟩
abbrev cX3_setVersion : ByteArray := prog_5_method_10_code
def yX3_setVersion : MethodName := ⟨RX3, "setVersion", "(III)I"⟩
abbrev cX3_setPool : ByteArray := prog_5_method_11_code
def yX3_setPool : MethodName := ⟨RX3, "setPool", "(II)I"⟩
abbrev cX3_installs : ByteArray := prog_5_method_12_code
def yX3_installs : MethodName := ⟨RX3, "installs", "()I"⟩
abbrev cX3_isThere : ByteArray := prog_5_method_13_code
def yX3_isThere : MethodName := ⟨RX3, "isThere", "(I)Z"⟩
abbrev cX3_entitle : ByteArray := prog_5_method_14_code
def yX3_entitle : MethodName := ⟨RX3, "entitle", "(IIICII)I"⟩
abbrev cX3_setRights : ByteArray := prog_5_method_15_code
def yX3_setRights : MethodName := ⟨RX3, "setRights", "(IZZZ)I"⟩
abbrev cX3_setMinimum : ByteArray := prog_5_method_16_code
def yX3_setMinimum : MethodName := ⟨RX3, "setMinimum", "(II)I"⟩
abbrev cX3_setPrice : ByteArray := prog_5_method_17_code
def yX3_setPrice : MethodName := ⟨RX3, "setPrice", "(II)I"⟩
abbrev cX3_addUnits : ByteArray := prog_5_method_18_code
def yX3_addUnits : MethodName := ⟨RX3, "addUnits", "(II)I"⟩
abbrev cX3_units : ByteArray := prog_5_method_19_code
def yX3_units : MethodName := ⟨RX3, "units", "(I)I"⟩
abbrev cX3_isSet : ByteArray := prog_5_method_20_code
def yX3_isSet : MethodName := ⟨RX3, "isSet", "(II)Z"⟩
abbrev cX3_reasonOf : ByteArray := prog_5_method_21_code
def yX3_reasonOf : MethodName := ⟨RX3, "reasonOf", "(II)C"⟩
abbrev cX3_fits : ByteArray := prog_5_method_22_code
def yX3_fits : MethodName := ⟨RX3, "fits", "(II)Z"⟩
abbrev cX3_why : ByteArray := prog_5_method_23_code
def yX3_why : MethodName := ⟨RX3, "why", "(II)C"⟩
abbrev cX3_fits_ : ByteArray := prog_5_method_24_code
def yX3_fits_ : MethodName := ⟨RX3, "fits", "(I)I"⟩
abbrev cX3_fitting : ByteArray := prog_5_method_25_code
def yX3_fitting : MethodName := ⟨RX3, "fitting", "(I)I"⟩
abbrev cX3_firstFitting : ByteArray := prog_5_method_26_code
def yX3_firstFitting : MethodName := ⟨RX3, "firstFitting", "(I)I"⟩
abbrev cX3_greatest : ByteArray := prog_5_method_27_code
def yX3_greatest : MethodName := ⟨RX3, "greatest", "(IIZ)I"⟩
abbrev cX3_needs : ByteArray := prog_5_method_28_code
def yX3_needs : MethodName := ⟨RX3, "needs", "(I)I"⟩
abbrev cX3_unitsForAll : ByteArray := prog_5_method_29_code
def yX3_unitsForAll : MethodName := ⟨RX3, "unitsForAll", "(I)I"⟩
abbrev cX3_take : ByteArray := prog_5_method_30_code
def yX3_take : MethodName := ⟨RX3, "take", "()V"⟩
abbrev cX3_put : ByteArray := prog_5_method_31_code
def yX3_put : MethodName := ⟨RX3, "put", "()V"⟩
abbrev cX3_begin : ByteArray := prog_5_method_32_code
def yX3_begin : MethodName := ⟨RX3, "begin", "()V"⟩
abbrev cX3_isAllowed : ByteArray := prog_5_method_33_code
def yX3_isAllowed : MethodName := ⟨RX3, "isAllowed", "(I)Z"⟩
abbrev cX3_covers : ByteArray := prog_5_method_34_code
def yX3_covers : MethodName := ⟨RX3, "covers", "(III)V"⟩
abbrev cX3_cover : ByteArray := prog_5_method_35_code
def yX3_cover : MethodName := ⟨RX3, "cover", "()V"⟩
abbrev cX3_covered : ByteArray := prog_5_method_36_code
def yX3_covered : MethodName := ⟨RX3, "covered", "()I"⟩
abbrev cX3_coveredByTrying : ByteArray := prog_5_method_37_code
def yX3_coveredByTrying : MethodName := ⟨RX3, "coveredByTrying", "()I"⟩
abbrev cX3_entitlementOf : ByteArray := prog_5_method_38_code
def yX3_entitlementOf : MethodName := ⟨RX3, "entitlementOf", "(I)I"⟩
abbrev cX3_reason : ByteArray := prog_5_method_39_code
def yX3_reason : MethodName := ⟨RX3, "reason", "(I)C"⟩
abbrev cX3_used : ByteArray := prog_5_method_40_code
def yX3_used : MethodName := ⟨RX3, "used", "(I)I"⟩
abbrev cX3_spare : ByteArray := prog_5_method_41_code
def yX3_spare : MethodName := ⟨RX3, "spare", "(I)I"⟩
abbrev cX3_beyond : ByteArray := prog_5_method_42_code
def yX3_beyond : MethodName := ⟨RX3, "beyond", "(I)I"⟩
abbrev cX3_costs : ByteArray := prog_5_method_43_code
def yX3_costs : MethodName := ⟨RX3, "costs", "()I"⟩
abbrev cX3_buys : ByteArray := prog_5_method_44_code
def yX3_buys : MethodName := ⟨RX3, "buys", "(I)V"⟩
abbrev cX3_noPurchase : ByteArray := prog_5_method_45_code
def yX3_noPurchase : MethodName := ⟨RX3, "noPurchase", "(I)Z"⟩
abbrev cX3_purchase : ByteArray := prog_5_method_46_code
def yX3_purchase : MethodName := ⟨RX3, "purchase", "()I"⟩
abbrev cX3_purchaseByTrying : ByteArray := prog_5_method_47_code
def yX3_purchaseByTrying : MethodName := ⟨RX3, "purchaseByTrying", "()I"⟩
abbrev cX3_toBuy : ByteArray := prog_5_method_48_code
def yX3_toBuy : MethodName := ⟨RX3, "toBuy", "(I)I"⟩
abbrev cX3_trueUp : ByteArray := prog_5_method_49_code
def yX3_trueUp : MethodName := ⟨RX3, "trueUp", "()I"⟩
abbrev cX3_spent : ByteArray := prog_5_method_50_code
def yX3_spent : MethodName := ⟨RX3, "spent", "()J"⟩
abbrev cX3_coverage : ByteArray := prog_5_method_51_code
def yX3_coverage : MethodName := ⟨RX3, "coverage", "()F"⟩
def RJx145de : String := "java/io/Serializable"
def TJx145de : u_T := fun k => match k with
  | _ => ("", "", "", false)
def tyJx145de : Nat → FieldType := fun k => match k with
  | _ => .int
theorem nmJx145de : ∀ a, a < 0 → ∀ b, b < 0 → a ≠ b → (TJx145de a).2.1 ≠ (TJx145de b).2.1 := by decide +kernel
theorem tyJx145de_ok : ∀ k, k < 0 → parseFieldDescriptor (TJx145de k).2.2.1 = some (tyJx145de k) := by decide +kernel
def RJ9 : String := "java/lang/Math"
def TJ9 : u_T := fun k => match k with
  | _ => ("", "", "", false)
def tyJ9 : Nat → FieldType := fun k => match k with
  | _ => .int
theorem nmJ9 : ∀ a, a < 0 → ∀ b, b < 0 → a ≠ b → (TJ9 a).2.1 ≠ (TJ9 b).2.1 := by decide +kernel
theorem tyJ9_ok : ∀ k, k < 0 → parseFieldDescriptor (TJ9 k).2.2.1 = some (tyJ9 k) := by decide +kernel
abbrev cJ9_max_7cf53 : ByteArray := prog_11_method_65_code
def yJ9_max_7cf53 : MethodName := ⟨RJ9, "max", "(II)I"⟩
def RJ0 : String := "java/lang/String"
def TJ0 : u_T := fun k => match k with
  | _ => ("", "", "", false)
def tyJ0 : Nat → FieldType := fun k => match k with
  | _ => .int
theorem nmJ0 : ∀ a, a < 0 → ∀ b, b < 0 → a ≠ b → (TJ0 a).2.1 ≠ (TJ0 b).2.1 := by decide +kernel
theorem tyJ0_ok : ∀ k, k < 0 → parseFieldDescriptor (TJ0 k).2.2.1 = some (tyJ0 k) := by decide +kernel
def RJ10 : String := "java/lang/System"
def TJ10 : u_T := fun k => match k with
  | _ => ("", "", "", false)
def tyJ10 : Nat → FieldType := fun k => match k with
  | _ => .int
theorem nmJ10 : ∀ a, a < 0 → ∀ b, b < 0 → a ≠ b → (TJ10 a).2.1 ≠ (TJ10 b).2.1 := by decide +kernel
theorem tyJ10_ok : ∀ k, k < 0 → parseFieldDescriptor (TJ10 k).2.2.1 = some (tyJ10 k) := by decide +kernel
def RL : String := "EntitledLaw"
abbrev cL_install : ByteArray := method_3_code
def yL_install : MethodName := ⟨RL, "install", "(LEntitled;IIIIIII[J)I"⟩
abbrev cL_retire : ByteArray := method_4_code
def yL_retire : MethodName := ⟨RL, "retire", "(LEntitled;I[J)I"⟩
abbrev cL_moveTo : ByteArray := method_5_code
def yL_moveTo : MethodName := ⟨RL, "moveTo", "(LEntitled;III[J)I"⟩
abbrev cL_setVersion : ByteArray := method_6_code
def yL_setVersion : MethodName := ⟨RL, "setVersion", "(LEntitled;III[J)I"⟩
abbrev cL_setPool : ByteArray := method_7_code
def yL_setPool : MethodName := ⟨RL, "setPool", "(LEntitled;II[J)I"⟩
abbrev cL_entitle : ByteArray := method_8_code
def yL_entitle : MethodName := ⟨RL, "entitle", "(LEntitled;IIICII[J)I"⟩
abbrev cL_setRights : ByteArray := method_9_code
def yL_setRights : MethodName := ⟨RL, "setRights", "(LEntitled;IZZZ[J)I"⟩
abbrev cL_setMinimum : ByteArray := method_10_code
def yL_setMinimum : MethodName := ⟨RL, "setMinimum", "(LEntitled;II[J)I"⟩
abbrev cL_setPrice : ByteArray := method_11_code
def yL_setPrice : MethodName := ⟨RL, "setPrice", "(LEntitled;II[J)I"⟩
abbrev cL_addUnits : ByteArray := method_12_code
def yL_addUnits : MethodName := ⟨RL, "addUnits", "(LEntitled;II[J)I"⟩
abbrev cL_units : ByteArray := method_13_code
def yL_units : MethodName := ⟨RL, "units", "(LEntitled;I[J)I"⟩
abbrev cL_why : ByteArray := method_14_code
def yL_why : MethodName := ⟨RL, "why", "(LEntitled;II[J)I"⟩
abbrev cL_fitting : ByteArray := method_15_code
def yL_fitting : MethodName := ⟨RL, "fitting", "(LEntitled;I[J)I"⟩
abbrev cL_firstFitting : ByteArray := method_16_code
def yL_firstFitting : MethodName := ⟨RL, "firstFitting", "(LEntitled;I[J)I"⟩
abbrev cL_unitsForAll : ByteArray := method_17_code
def yL_unitsForAll : MethodName := ⟨RL, "unitsForAll", "(LEntitled;I[J)I"⟩
abbrev cL_coveredByTrying : ByteArray := method_18_code
def yL_coveredByTrying : MethodName := ⟨RL, "coveredByTrying", "(LEntitled;[J)I"⟩
abbrev cL_entitlementOf : ByteArray := method_19_code
def yL_entitlementOf : MethodName := ⟨RL, "entitlementOf", "(LEntitled;I[J)I"⟩
abbrev cL_reason : ByteArray := method_20_code
def yL_reason : MethodName := ⟨RL, "reason", "(LEntitled;I[J)I"⟩
abbrev cL_used : ByteArray := method_21_code
def yL_used : MethodName := ⟨RL, "used", "(LEntitled;I[J)I"⟩
abbrev cL_spare : ByteArray := method_22_code
def yL_spare : MethodName := ⟨RL, "spare", "(LEntitled;I[J)I"⟩
abbrev cL_purchase : ByteArray := method_23_code
def yL_purchase : MethodName := ⟨RL, "purchase", "(LEntitled;[J)I"⟩
abbrev cL_purchaseByTrying : ByteArray := method_24_code
def yL_purchaseByTrying : MethodName := ⟨RL, "purchaseByTrying", "(LEntitled;[J)I"⟩
abbrev cL_toBuy : ByteArray := method_25_code
def yL_toBuy : MethodName := ⟨RL, "toBuy", "(LEntitled;I[J)I"⟩
abbrev cL_trueUp : ByteArray := method_26_code
def yL_trueUp : MethodName := ⟨RL, "trueUp", "(LEntitled;[J)I"⟩
abbrev cL_coverage : ByteArray := method_27_code
def yL_coverage : MethodName := ⟨RL, "coverage", "(LEntitled;[D)I"⟩
abbrev cL_law : ByteArray := code
def yL_law : MethodName := ⟨RL, "law", "([I)Z"⟩
theorem dJ9_max_7cf53_0 : decode cJ9_max_7cf53 0 = .ok (.iload_n 0, 1) := by decide +kernel
theorem dJ9_max_7cf53_1 : decode cJ9_max_7cf53 1 = .ok (.iload_n 1, 1) := by decide +kernel
theorem dJ9_max_7cf53_2 : decode cJ9_max_7cf53 2 = .ok (.if_icmp .lt 7, 3) := by decide +kernel
theorem dJ9_max_7cf53_5 : decode cJ9_max_7cf53 5 = .ok (.iload_n 0, 1) := by decide +kernel
theorem dJ9_max_7cf53_6 : decode cJ9_max_7cf53 6 = .ok (.goto 4, 3) := by decide +kernel
theorem dJ9_max_7cf53_9 : decode cJ9_max_7cf53 9 = .ok (.iload_n 1, 1) := by decide +kernel
theorem dJ9_max_7cf53_10 : decode cJ9_max_7cf53 10 = .ok (.ireturn, 1) := by decide +kernel
abbrev vwCl : List vw_C := [(RX0, TX0, 13), (RX1, TX1, 8), (RX2, TX2, 10), (RX3, TX3, 28)]
end
section
theorem dX0_init_0 : decode cX0_init 0 = .ok (.aload_n 0, 1) := by decide +kernel
theorem dX0_init_1 : decode cX0_init 1 = .ok (.invokespecial 3, 3) := by decide +kernel
theorem dX0_init_4 : decode cX0_init 4 = .ok (.aload_n 0, 1) := by decide +kernel
theorem dX0_init_5 : decode cX0_init 5 = .ok (.bipush 40, 2) := by decide +kernel
theorem dX0_init_7 : decode cX0_init 7 = .ok (.newarray .int, 2) := by decide +kernel
theorem dX0_init_9 : decode cX0_init 9 = .ok (.putfield 9, 3) := by decide +kernel
theorem dX0_init_12 : decode cX0_init 12 = .ok (.return_, 1) := by decide +kernel
theorem dX0_fill_0 : decode cX0_fill 0 = .ok (.aload_n 0, 1) := by decide +kernel
theorem dX0_fill_1 : decode cX0_fill 1 = .ok (.iload_n 1, 1) := by decide +kernel
theorem dX0_fill_2 : decode cX0_fill 2 = .ok (.putfield 15, 3) := by decide +kernel
theorem dX0_fill_5 : decode cX0_fill 5 = .ok (.aload_n 0, 1) := by decide +kernel
theorem dX0_fill_6 : decode cX0_fill 6 = .ok (.iload_n 2, 1) := by decide +kernel
theorem dX0_fill_7 : decode cX0_fill 7 = .ok (.putfield 19, 3) := by decide +kernel
theorem dX0_fill_10 : decode cX0_fill 10 = .ok (.aload_n 0, 1) := by decide +kernel
theorem dX0_fill_11 : decode cX0_fill 11 = .ok (.iload_n 3, 1) := by decide +kernel
theorem dX0_fill_12 : decode cX0_fill 12 = .ok (.putfield 22, 3) := by decide +kernel
theorem dX0_fill_15 : decode cX0_fill 15 = .ok (.aload_n 0, 1) := by decide +kernel
theorem dX0_fill_16 : decode cX0_fill 16 = .ok (.iload 4, 2) := by decide +kernel
theorem dX0_fill_18 : decode cX0_fill 18 = .ok (.putfield 25, 3) := by decide +kernel
theorem dX0_fill_21 : decode cX0_fill 21 = .ok (.aload_n 0, 1) := by decide +kernel
theorem dX0_fill_22 : decode cX0_fill 22 = .ok (.iload 5, 2) := by decide +kernel
theorem dX0_fill_24 : decode cX0_fill 24 = .ok (.putfield 29, 3) := by decide +kernel
theorem dX0_fill_27 : decode cX0_fill 27 = .ok (.aload_n 0, 1) := by decide +kernel
theorem dX0_fill_28 : decode cX0_fill 28 = .ok (.iload 6, 2) := by decide +kernel
theorem dX0_fill_30 : decode cX0_fill 30 = .ok (.putfield 32, 3) := by decide +kernel
theorem dX0_fill_33 : decode cX0_fill 33 = .ok (.aload_n 0, 1) := by decide +kernel
theorem dX0_fill_34 : decode cX0_fill 34 = .ok (.iconst 1, 1) := by decide +kernel
theorem dX0_fill_35 : decode cX0_fill 35 = .ok (.putfield 35, 3) := by decide +kernel
theorem dX0_fill_38 : decode cX0_fill 38 = .ok (.aload_n 0, 1) := by decide +kernel
theorem dX0_fill_39 : decode cX0_fill 39 = .ok (.bipush 10, 2) := by decide +kernel
theorem dX0_fill_41 : decode cX0_fill 41 = .ok (.putfield 38, 3) := by decide +kernel
theorem dX0_fill_44 : decode cX0_fill 44 = .ok (.return_, 1) := by decide +kernel
theorem dX0_countRights_0 : decode cX0_countRights 0 = .ok (.aload_n 0, 1) := by decide +kernel
theorem dX0_countRights_1 : decode cX0_countRights 1 = .ok (.getfield 41, 3) := by decide +kernel
theorem dX0_countRights_4 : decode cX0_countRights 4 = .ok (.ifCond .eq 7, 3) := by decide +kernel
theorem dX0_countRights_7 : decode cX0_countRights 7 = .ok (.iconst 1, 1) := by decide +kernel
theorem dX0_countRights_8 : decode cX0_countRights 8 = .ok (.goto 4, 3) := by decide +kernel
theorem dX0_countRights_11 : decode cX0_countRights 11 = .ok (.iconst 0, 1) := by decide +kernel
theorem dX0_countRights_12 : decode cX0_countRights 12 = .ok (.aload_n 0, 1) := by decide +kernel
theorem dX0_countRights_13 : decode cX0_countRights 13 = .ok (.getfield 45, 3) := by decide +kernel
theorem dX0_countRights_16 : decode cX0_countRights 16 = .ok (.ifCond .eq 7, 3) := by decide +kernel
theorem dX0_countRights_19 : decode cX0_countRights 19 = .ok (.iconst 1, 1) := by decide +kernel
theorem dX0_countRights_20 : decode cX0_countRights 20 = .ok (.goto 4, 3) := by decide +kernel
theorem dX0_countRights_23 : decode cX0_countRights 23 = .ok (.iconst 0, 1) := by decide +kernel
theorem dX0_countRights_24 : decode cX0_countRights 24 = .ok (.iadd, 1) := by decide +kernel
theorem dX0_countRights_25 : decode cX0_countRights 25 = .ok (.aload_n 0, 1) := by decide +kernel
theorem dX0_countRights_26 : decode cX0_countRights 26 = .ok (.getfield 48, 3) := by decide +kernel
theorem dX0_countRights_29 : decode cX0_countRights 29 = .ok (.ifCond .eq 7, 3) := by decide +kernel
theorem dX0_countRights_32 : decode cX0_countRights 32 = .ok (.iconst 1, 1) := by decide +kernel
theorem dX0_countRights_33 : decode cX0_countRights 33 = .ok (.goto 4, 3) := by decide +kernel
theorem dX0_countRights_36 : decode cX0_countRights 36 = .ok (.iconst 0, 1) := by decide +kernel
theorem dX0_countRights_37 : decode cX0_countRights 37 = .ok (.iadd, 1) := by decide +kernel
theorem dX0_countRights_38 : decode cX0_countRights 38 = .ok (.ireturn, 1) := by decide +kernel
theorem dX0_fits_0 : decode cX0_fits 0 = .ok (.aload_n 1, 1) := by decide +kernel
theorem dX0_fits_1 : decode cX0_fits 1 = .ok (.getfield 51, 3) := by decide +kernel
theorem dX0_fits_4 : decode cX0_fits 4 = .ok (.ifCond .eq 17, 3) := by decide +kernel
theorem dX0_fits_7 : decode cX0_fits 7 = .ok (.aload_n 0, 1) := by decide +kernel
theorem dX0_fits_8 : decode cX0_fits 8 = .ok (.aload_n 1, 1) := by decide +kernel
theorem dX0_fits_9 : decode cX0_fits 9 = .ok (.invokevirtual 56, 3) := by decide +kernel
theorem dX0_fits_12 : decode cX0_fits 12 = .ok (.bipush 45, 2) := by decide +kernel
theorem dX0_fits_14 : decode cX0_fits 14 = .ok (.if_icmp .ne 7, 3) := by decide +kernel
theorem dX0_fits_17 : decode cX0_fits 17 = .ok (.iconst 1, 1) := by decide +kernel
theorem dX0_fits_18 : decode cX0_fits 18 = .ok (.goto 4, 3) := by decide +kernel
theorem dX0_fits_21 : decode cX0_fits 21 = .ok (.iconst 0, 1) := by decide +kernel
theorem dX0_fits_22 : decode cX0_fits 22 = .ok (.ireturn, 1) := by decide +kernel
theorem dX0_misfit_0 : decode cX0_misfit 0 = .ok (.aload_n 0, 1) := by decide +kernel
theorem dX0_misfit_1 : decode cX0_misfit 1 = .ok (.getfield 15, 3) := by decide +kernel
theorem dX0_misfit_4 : decode cX0_misfit 4 = .ok (.iconst 1, 1) := by decide +kernel
theorem dX0_misfit_5 : decode cX0_misfit 5 = .ok (.aload_n 1, 1) := by decide +kernel
theorem dX0_misfit_6 : decode cX0_misfit 6 = .ok (.getfield 60, 3) := by decide +kernel
theorem dX0_misfit_9 : decode cX0_misfit 9 = .ok (.ishl, 1) := by decide +kernel
theorem dX0_misfit_10 : decode cX0_misfit 10 = .ok (.iand, 1) := by decide +kernel
theorem dX0_misfit_11 : decode cX0_misfit 11 = .ok (.ifCond .ne 6, 3) := by decide +kernel
theorem dX0_misfit_14 : decode cX0_misfit 14 = .ok (.bipush 112, 2) := by decide +kernel
theorem dX0_misfit_16 : decode cX0_misfit 16 = .ok (.ireturn, 1) := by decide +kernel
theorem dX0_misfit_17 : decode cX0_misfit 17 = .ok (.aload_n 0, 1) := by decide +kernel
theorem dX0_misfit_18 : decode cX0_misfit 18 = .ok (.getfield 32, 3) := by decide +kernel
theorem dX0_misfit_21 : decode cX0_misfit 21 = .ok (.iconst (-1), 1) := by decide +kernel
theorem dX0_misfit_22 : decode cX0_misfit 22 = .ok (.if_icmp .eq 17, 3) := by decide +kernel
theorem dX0_misfit_25 : decode cX0_misfit 25 = .ok (.aload_n 0, 1) := by decide +kernel
theorem dX0_misfit_26 : decode cX0_misfit 26 = .ok (.getfield 32, 3) := by decide +kernel
theorem dX0_misfit_29 : decode cX0_misfit 29 = .ok (.aload_n 1, 1) := by decide +kernel
theorem dX0_misfit_30 : decode cX0_misfit 30 = .ok (.getfield 63, 3) := by decide +kernel
theorem dX0_misfit_33 : decode cX0_misfit 33 = .ok (.if_icmp .eq 6, 3) := by decide +kernel
theorem dX0_misfit_36 : decode cX0_misfit 36 = .ok (.bipush 111, 2) := by decide +kernel
theorem dX0_misfit_38 : decode cX0_misfit 38 = .ok (.ireturn, 1) := by decide +kernel
theorem dX0_misfit_39 : decode cX0_misfit 39 = .ok (.aload_n 1, 1) := by decide +kernel
theorem dX0_misfit_40 : decode cX0_misfit 40 = .ok (.getfield 64, 3) := by decide +kernel
theorem dX0_misfit_43 : decode cX0_misfit 43 = .ok (.aload_n 0, 1) := by decide +kernel
theorem dX0_misfit_44 : decode cX0_misfit 44 = .ok (.getfield 22, 3) := by decide +kernel
theorem dX0_misfit_47 : decode cX0_misfit 47 = .ok (.if_icmp .gt 21, 3) := by decide +kernel
theorem dX0_misfit_50 : decode cX0_misfit 50 = .ok (.aload_n 1, 1) := by decide +kernel
theorem dX0_misfit_51 : decode cX0_misfit 51 = .ok (.getfield 64, 3) := by decide +kernel
theorem dX0_misfit_54 : decode cX0_misfit 54 = .ok (.aload_n 0, 1) := by decide +kernel
theorem dX0_misfit_55 : decode cX0_misfit 55 = .ok (.getfield 22, 3) := by decide +kernel
theorem dX0_misfit_58 : decode cX0_misfit 58 = .ok (.if_icmp .ge 13, 3) := by decide +kernel
theorem dX0_misfit_61 : decode cX0_misfit 61 = .ok (.aload_n 0, 1) := by decide +kernel
theorem dX0_misfit_62 : decode cX0_misfit 62 = .ok (.getfield 41, 3) := by decide +kernel
theorem dX0_misfit_65 : decode cX0_misfit 65 = .ok (.ifCond .ne 6, 3) := by decide +kernel
theorem dX0_misfit_68 : decode cX0_misfit 68 = .ok (.bipush 101, 2) := by decide +kernel
theorem dX0_misfit_70 : decode cX0_misfit 70 = .ok (.ireturn, 1) := by decide +kernel
theorem dX0_misfit_71 : decode cX0_misfit 71 = .ok (.aload_n 1, 1) := by decide +kernel
theorem dX0_misfit_72 : decode cX0_misfit 72 = .ok (.getfield 65, 3) := by decide +kernel
theorem dX0_misfit_75 : decode cX0_misfit 75 = .ok (.aload_n 0, 1) := by decide +kernel
theorem dX0_misfit_76 : decode cX0_misfit 76 = .ok (.getfield 19, 3) := by decide +kernel
theorem dX0_misfit_79 : decode cX0_misfit 79 = .ok (.if_icmp .ge 10, 3) := by decide +kernel
theorem dX0_misfit_82 : decode cX0_misfit 82 = .ok (.aload_n 0, 1) := by decide +kernel
theorem dX0_misfit_83 : decode cX0_misfit 83 = .ok (.getfield 41, 3) := by decide +kernel
theorem dX0_misfit_86 : decode cX0_misfit 86 = .ok (.ifCond .eq 21, 3) := by decide +kernel
theorem dX0_misfit_89 : decode cX0_misfit 89 = .ok (.aload_n 1, 1) := by decide +kernel
theorem dX0_misfit_90 : decode cX0_misfit 90 = .ok (.getfield 65, 3) := by decide +kernel
theorem dX0_misfit_93 : decode cX0_misfit 93 = .ok (.aload_n 0, 1) := by decide +kernel
theorem dX0_misfit_94 : decode cX0_misfit 94 = .ok (.getfield 19, 3) := by decide +kernel
theorem dX0_misfit_97 : decode cX0_misfit 97 = .ok (.if_icmp .le 13, 3) := by decide +kernel
theorem dX0_misfit_100 : decode cX0_misfit 100 = .ok (.aload_n 0, 1) := by decide +kernel
theorem dX0_misfit_101 : decode cX0_misfit 101 = .ok (.getfield 45, 3) := by decide +kernel
theorem dX0_misfit_104 : decode cX0_misfit 104 = .ok (.ifCond .ne 6, 3) := by decide +kernel
theorem dX0_misfit_107 : decode cX0_misfit 107 = .ok (.bipush 118, 2) := by decide +kernel
theorem dX0_misfit_109 : decode cX0_misfit 109 = .ok (.ireturn, 1) := by decide +kernel
theorem dX0_misfit_110 : decode cX0_misfit 110 = .ok (.bipush 45, 2) := by decide +kernel
theorem dX0_misfit_112 : decode cX0_misfit 112 = .ok (.ireturn, 1) := by decide +kernel
theorem dX0_clearNeed_0 : decode cX0_clearNeed 0 = .ok (.iconst 0, 1) := by decide +kernel
theorem dX0_clearNeed_1 : decode cX0_clearNeed 1 = .ok (.istore_n 1, 1) := by decide +kernel
theorem dX0_clearNeed_2 : decode cX0_clearNeed 2 = .ok (.iload_n 1, 1) := by decide +kernel
theorem dX0_clearNeed_3 : decode cX0_clearNeed 3 = .ok (.aload_n 0, 1) := by decide +kernel
theorem dX0_clearNeed_4 : decode cX0_clearNeed 4 = .ok (.getfield 9, 3) := by decide +kernel
theorem dX0_clearNeed_7 : decode cX0_clearNeed 7 = .ok (.arraylength, 1) := by decide +kernel
theorem dX0_clearNeed_8 : decode cX0_clearNeed 8 = .ok (.if_icmp .ge 16, 3) := by decide +kernel
theorem dX0_clearNeed_11 : decode cX0_clearNeed 11 = .ok (.aload_n 0, 1) := by decide +kernel
theorem dX0_clearNeed_12 : decode cX0_clearNeed 12 = .ok (.getfield 9, 3) := by decide +kernel
theorem dX0_clearNeed_15 : decode cX0_clearNeed 15 = .ok (.iload_n 1, 1) := by decide +kernel
theorem dX0_clearNeed_16 : decode cX0_clearNeed 16 = .ok (.iconst 0, 1) := by decide +kernel
theorem dX0_clearNeed_17 : decode cX0_clearNeed 17 = .ok (.iastore, 1) := by decide +kernel
theorem dX0_clearNeed_18 : decode cX0_clearNeed 18 = .ok (.iinc 1 1, 3) := by decide +kernel
theorem dX0_clearNeed_21 : decode cX0_clearNeed 21 = .ok (.goto (-19), 3) := by decide +kernel
theorem dX0_clearNeed_24 : decode cX0_clearNeed 24 = .ok (.aload_n 0, 1) := by decide +kernel
theorem dX0_clearNeed_25 : decode cX0_clearNeed 25 = .ok (.iconst 0, 1) := by decide +kernel
theorem dX0_clearNeed_26 : decode cX0_clearNeed 26 = .ok (.putfield 66, 3) := by decide +kernel
theorem dX0_clearNeed_29 : decode cX0_clearNeed 29 = .ok (.return_, 1) := by decide +kernel
theorem dX0_serve_0 : decode cX0_serve 0 = .ok (.aload_n 0, 1) := by decide +kernel
theorem dX0_serve_1 : decode cX0_serve 1 = .ok (.aload_n 1, 1) := by decide +kernel
theorem dX0_serve_2 : decode cX0_serve 2 = .ok (.iconst 1, 1) := by decide +kernel
theorem dX0_serve_3 : decode cX0_serve 3 = .ok (.invokevirtual 69, 3) := by decide +kernel
theorem dX0_serve_6 : decode cX0_serve 6 = .ok (.return_, 1) := by decide +kernel
theorem dX0_release_0 : decode cX0_release 0 = .ok (.aload_n 0, 1) := by decide +kernel
theorem dX0_release_1 : decode cX0_release 1 = .ok (.aload_n 1, 1) := by decide +kernel
theorem dX0_release_2 : decode cX0_release 2 = .ok (.iconst (-1), 1) := by decide +kernel
theorem dX0_release_3 : decode cX0_release 3 = .ok (.invokevirtual 69, 3) := by decide +kernel
theorem dX0_release_6 : decode cX0_release 6 = .ok (.return_, 1) := by decide +kernel
theorem dX0_changeNeed_0 : decode cX0_changeNeed 0 = .ok (.aload_n 0, 1) := by decide +kernel
theorem dX0_changeNeed_1 : decode cX0_changeNeed 1 = .ok (.getfield 25, 3) := by decide +kernel
theorem dX0_changeNeed_4 : decode cX0_changeNeed 4 = .ok (.bipush 99, 2) := by decide +kernel
theorem dX0_changeNeed_6 : decode cX0_changeNeed 6 = .ok (.if_icmp .ne 26, 3) := by decide +kernel
theorem dX0_changeNeed_9 : decode cX0_changeNeed 9 = .ok (.aload_n 0, 1) := by decide +kernel
theorem dX0_changeNeed_10 : decode cX0_changeNeed 10 = .ok (.dup, 1) := by decide +kernel
theorem dX0_changeNeed_11 : decode cX0_changeNeed 11 = .ok (.getfield 66, 3) := by decide +kernel
theorem dX0_changeNeed_14 : decode cX0_changeNeed 14 = .ok (.iload_n 2, 1) := by decide +kernel
theorem dX0_changeNeed_15 : decode cX0_changeNeed 15 = .ok (.aload_n 1, 1) := by decide +kernel
theorem dX0_changeNeed_16 : decode cX0_changeNeed 16 = .ok (.getfield 73, 3) := by decide +kernel
theorem dX0_changeNeed_19 : decode cX0_changeNeed 19 = .ok (.aload_n 0, 1) := by decide +kernel
theorem dX0_changeNeed_20 : decode cX0_changeNeed 20 = .ok (.getfield 35, 3) := by decide +kernel
theorem dX0_changeNeed_23 : decode cX0_changeNeed 23 = .ok (.invokestatic 76, 3) := by decide +kernel
theorem dX0_changeNeed_26 : decode cX0_changeNeed 26 = .ok (.imul, 1) := by decide +kernel
theorem dX0_changeNeed_27 : decode cX0_changeNeed 27 = .ok (.iadd, 1) := by decide +kernel
theorem dX0_changeNeed_28 : decode cX0_changeNeed 28 = .ok (.putfield 66, 3) := by decide +kernel
theorem dX0_changeNeed_31 : decode cX0_changeNeed 31 = .ok (.return_, 1) := by decide +kernel
theorem dX0_changeNeed_32 : decode cX0_changeNeed 32 = .ok (.aload_n 0, 1) := by decide +kernel
theorem dX0_changeNeed_33 : decode cX0_changeNeed 33 = .ok (.getfield 25, 3) := by decide +kernel
theorem dX0_changeNeed_36 : decode cX0_changeNeed 36 = .ok (.bipush 100, 2) := by decide +kernel
theorem dX0_changeNeed_38 : decode cX0_changeNeed 38 = .ok (.if_icmp .ne 10, 3) := by decide +kernel
theorem dX0_changeNeed_41 : decode cX0_changeNeed 41 = .ok (.aload_n 1, 1) := by decide +kernel
theorem dX0_changeNeed_42 : decode cX0_changeNeed 42 = .ok (.getfield 82, 3) := by decide +kernel
theorem dX0_changeNeed_45 : decode cX0_changeNeed 45 = .ok (.goto 7, 3) := by decide +kernel
theorem dX0_changeNeed_48 : decode cX0_changeNeed 48 = .ok (.aload_n 1, 1) := by decide +kernel
theorem dX0_changeNeed_49 : decode cX0_changeNeed 49 = .ok (.getfield 85, 3) := by decide +kernel
theorem dX0_changeNeed_52 : decode cX0_changeNeed 52 = .ok (.istore_n 3, 1) := by decide +kernel
theorem dX0_changeNeed_53 : decode cX0_changeNeed 53 = .ok (.iload_n 3, 1) := by decide +kernel
theorem dX0_changeNeed_54 : decode cX0_changeNeed 54 = .ok (.iconst 0, 1) := by decide +kernel
theorem dX0_changeNeed_55 : decode cX0_changeNeed 55 = .ok (.bipush 9, 2) := by decide +kernel
theorem dX0_changeNeed_57 : decode cX0_changeNeed 57 = .ok (.invokestatic 88, 3) := by decide +kernel
theorem dX0_changeNeed_60 : decode cX0_changeNeed 60 = .ok (.ifCond .eq 15, 3) := by decide +kernel
theorem dX0_changeNeed_63 : decode cX0_changeNeed 63 = .ok (.aload_n 1, 1) := by decide +kernel
theorem dX0_changeNeed_64 : decode cX0_changeNeed 64 = .ok (.getfield 60, 3) := by decide +kernel
theorem dX0_changeNeed_67 : decode cX0_changeNeed 67 = .ok (.iconst 0, 1) := by decide +kernel
theorem dX0_changeNeed_68 : decode cX0_changeNeed 68 = .ok (.iconst 3, 1) := by decide +kernel
theorem dX0_changeNeed_69 : decode cX0_changeNeed 69 = .ok (.invokestatic 88, 3) := by decide +kernel
theorem dX0_changeNeed_72 : decode cX0_changeNeed 72 = .ok (.ifCond .ne 4, 3) := by decide +kernel
theorem dX0_changeNeed_75 : decode cX0_changeNeed 75 = .ok (.return_, 1) := by decide +kernel
theorem dX0_changeNeed_76 : decode cX0_changeNeed 76 = .ok (.aload_n 0, 1) := by decide +kernel
theorem dX0_changeNeed_77 : decode cX0_changeNeed 77 = .ok (.iload_n 3, 1) := by decide +kernel
theorem dX0_changeNeed_78 : decode cX0_changeNeed 78 = .ok (.invokevirtual 92, 3) := by decide +kernel
theorem dX0_changeNeed_81 : decode cX0_changeNeed 81 = .ok (.istore 4, 2) := by decide +kernel
theorem dX0_changeNeed_83 : decode cX0_changeNeed 83 = .ok (.aload_n 0, 1) := by decide +kernel
theorem dX0_changeNeed_84 : decode cX0_changeNeed 84 = .ok (.getfield 9, 3) := by decide +kernel
theorem dX0_changeNeed_87 : decode cX0_changeNeed 87 = .ok (.iload_n 3, 1) := by decide +kernel
theorem dX0_changeNeed_88 : decode cX0_changeNeed 88 = .ok (.iconst 4, 1) := by decide +kernel
theorem dX0_changeNeed_89 : decode cX0_changeNeed 89 = .ok (.imul, 1) := by decide +kernel
theorem dX0_changeNeed_90 : decode cX0_changeNeed 90 = .ok (.aload_n 1, 1) := by decide +kernel
theorem dX0_changeNeed_91 : decode cX0_changeNeed 91 = .ok (.getfield 60, 3) := by decide +kernel
theorem dX0_changeNeed_94 : decode cX0_changeNeed 94 = .ok (.iadd, 1) := by decide +kernel
theorem dX0_changeNeed_95 : decode cX0_changeNeed 95 = .ok (.dup2, 1) := by decide +kernel
theorem dX0_changeNeed_96 : decode cX0_changeNeed 96 = .ok (.iaload, 1) := by decide +kernel
theorem dX0_changeNeed_97 : decode cX0_changeNeed 97 = .ok (.iload_n 2, 1) := by decide +kernel
theorem dX0_changeNeed_98 : decode cX0_changeNeed 98 = .ok (.iadd, 1) := by decide +kernel
theorem dX0_changeNeed_99 : decode cX0_changeNeed 99 = .ok (.iastore, 1) := by decide +kernel
theorem dX0_changeNeed_100 : decode cX0_changeNeed 100 = .ok (.aload_n 0, 1) := by decide +kernel
theorem dX0_changeNeed_101 : decode cX0_changeNeed 101 = .ok (.dup, 1) := by decide +kernel
theorem dX0_changeNeed_102 : decode cX0_changeNeed 102 = .ok (.getfield 66, 3) := by decide +kernel
theorem dX0_changeNeed_105 : decode cX0_changeNeed 105 = .ok (.aload_n 0, 1) := by decide +kernel
theorem dX0_changeNeed_106 : decode cX0_changeNeed 106 = .ok (.iload_n 3, 1) := by decide +kernel
theorem dX0_changeNeed_107 : decode cX0_changeNeed 107 = .ok (.invokevirtual 92, 3) := by decide +kernel
theorem dX0_changeNeed_110 : decode cX0_changeNeed 110 = .ok (.iload 4, 2) := by decide +kernel
theorem dX0_changeNeed_112 : decode cX0_changeNeed 112 = .ok (.isub, 1) := by decide +kernel
theorem dX0_changeNeed_113 : decode cX0_changeNeed 113 = .ok (.iadd, 1) := by decide +kernel
theorem dX0_changeNeed_114 : decode cX0_changeNeed 114 = .ok (.putfield 66, 3) := by decide +kernel
theorem dX0_changeNeed_117 : decode cX0_changeNeed 117 = .ok (.return_, 1) := by decide +kernel
theorem dX0_unitsOfHolder_0 : decode cX0_unitsOfHolder 0 = .ok (.iconst 0, 1) := by decide +kernel
theorem dX0_unitsOfHolder_1 : decode cX0_unitsOfHolder 1 = .ok (.istore_n 2, 1) := by decide +kernel
theorem dX0_unitsOfHolder_2 : decode cX0_unitsOfHolder 2 = .ok (.iconst 0, 1) := by decide +kernel
theorem dX0_unitsOfHolder_3 : decode cX0_unitsOfHolder 3 = .ok (.istore_n 3, 1) := by decide +kernel
theorem dX0_unitsOfHolder_4 : decode cX0_unitsOfHolder 4 = .ok (.iload_n 3, 1) := by decide +kernel
theorem dX0_unitsOfHolder_5 : decode cX0_unitsOfHolder 5 = .ok (.iconst 4, 1) := by decide +kernel
theorem dX0_unitsOfHolder_6 : decode cX0_unitsOfHolder 6 = .ok (.if_icmp .ge 24, 3) := by decide +kernel
theorem dX0_unitsOfHolder_9 : decode cX0_unitsOfHolder 9 = .ok (.iload_n 2, 1) := by decide +kernel
theorem dX0_unitsOfHolder_10 : decode cX0_unitsOfHolder 10 = .ok (.aload_n 0, 1) := by decide +kernel
theorem dX0_unitsOfHolder_11 : decode cX0_unitsOfHolder 11 = .ok (.getfield 9, 3) := by decide +kernel
theorem dX0_unitsOfHolder_14 : decode cX0_unitsOfHolder 14 = .ok (.iload_n 1, 1) := by decide +kernel
theorem dX0_unitsOfHolder_15 : decode cX0_unitsOfHolder 15 = .ok (.iconst 4, 1) := by decide +kernel
theorem dX0_unitsOfHolder_16 : decode cX0_unitsOfHolder 16 = .ok (.imul, 1) := by decide +kernel
theorem dX0_unitsOfHolder_17 : decode cX0_unitsOfHolder 17 = .ok (.iload_n 3, 1) := by decide +kernel
theorem dX0_unitsOfHolder_18 : decode cX0_unitsOfHolder 18 = .ok (.iadd, 1) := by decide +kernel
theorem dX0_unitsOfHolder_19 : decode cX0_unitsOfHolder 19 = .ok (.iaload, 1) := by decide +kernel
theorem dX0_unitsOfHolder_20 : decode cX0_unitsOfHolder 20 = .ok (.invokestatic 76, 3) := by decide +kernel
theorem dX0_unitsOfHolder_23 : decode cX0_unitsOfHolder 23 = .ok (.istore_n 2, 1) := by decide +kernel
theorem dX0_unitsOfHolder_24 : decode cX0_unitsOfHolder 24 = .ok (.iinc 3 1, 3) := by decide +kernel
theorem dX0_unitsOfHolder_27 : decode cX0_unitsOfHolder 27 = .ok (.goto (-23), 3) := by decide +kernel
theorem dX0_unitsOfHolder_30 : decode cX0_unitsOfHolder 30 = .ok (.aload_n 0, 1) := by decide +kernel
theorem dX0_unitsOfHolder_31 : decode cX0_unitsOfHolder 31 = .ok (.getfield 25, 3) := by decide +kernel
theorem dX0_unitsOfHolder_34 : decode cX0_unitsOfHolder 34 = .ok (.bipush 117, 2) := by decide +kernel
theorem dX0_unitsOfHolder_36 : decode cX0_unitsOfHolder 36 = .ok (.if_icmp .ne 18, 3) := by decide +kernel
theorem dX0_unitsOfHolder_39 : decode cX0_unitsOfHolder 39 = .ok (.aload_n 0, 1) := by decide +kernel
theorem dX0_unitsOfHolder_40 : decode cX0_unitsOfHolder 40 = .ok (.getfield 48, 3) := by decide +kernel
theorem dX0_unitsOfHolder_43 : decode cX0_unitsOfHolder 43 = .ok (.ifCond .eq 11, 3) := by decide +kernel
theorem dX0_unitsOfHolder_46 : decode cX0_unitsOfHolder 46 = .ok (.iload_n 2, 1) := by decide +kernel
theorem dX0_unitsOfHolder_47 : decode cX0_unitsOfHolder 47 = .ok (.iconst 1, 1) := by decide +kernel
theorem dX0_unitsOfHolder_48 : decode cX0_unitsOfHolder 48 = .ok (.iadd, 1) := by decide +kernel
theorem dX0_unitsOfHolder_49 : decode cX0_unitsOfHolder 49 = .ok (.iconst 2, 1) := by decide +kernel
theorem dX0_unitsOfHolder_50 : decode cX0_unitsOfHolder 50 = .ok (.idiv, 1) := by decide +kernel
theorem dX0_unitsOfHolder_51 : decode cX0_unitsOfHolder 51 = .ok (.goto 4, 3) := by decide +kernel
theorem dX0_unitsOfHolder_54 : decode cX0_unitsOfHolder 54 = .ok (.iload_n 2, 1) := by decide +kernel
theorem dX0_unitsOfHolder_55 : decode cX0_unitsOfHolder 55 = .ok (.ireturn, 1) := by decide +kernel
theorem dX0_missing_0 : decode cX0_missing 0 = .ok (.iconst 0, 1) := by decide +kernel
theorem dX0_missing_1 : decode cX0_missing 1 = .ok (.aload_n 0, 1) := by decide +kernel
theorem dX0_missing_2 : decode cX0_missing 2 = .ok (.getfield 66, 3) := by decide +kernel
theorem dX0_missing_5 : decode cX0_missing 5 = .ok (.aload_n 0, 1) := by decide +kernel
theorem dX0_missing_6 : decode cX0_missing 6 = .ok (.getfield 29, 3) := by decide +kernel
theorem dX0_missing_9 : decode cX0_missing 9 = .ok (.isub, 1) := by decide +kernel
theorem dX0_missing_10 : decode cX0_missing 10 = .ok (.invokestatic 76, 3) := by decide +kernel
theorem dX0_missing_13 : decode cX0_missing 13 = .ok (.ireturn, 1) := by decide +kernel
theorem dX0_missingPrice_0 : decode cX0_missingPrice 0 = .ok (.aload_n 0, 1) := by decide +kernel
theorem dX0_missingPrice_1 : decode cX0_missingPrice 1 = .ok (.getfield 38, 3) := by decide +kernel
theorem dX0_missingPrice_4 : decode cX0_missingPrice 4 = .ok (.aload_n 0, 1) := by decide +kernel
theorem dX0_missingPrice_5 : decode cX0_missingPrice 5 = .ok (.invokevirtual 96, 3) := by decide +kernel
theorem dX0_missingPrice_8 : decode cX0_missingPrice 8 = .ok (.imul, 1) := by decide +kernel
theorem dX0_missingPrice_9 : decode cX0_missingPrice 9 = .ok (.ireturn, 1) := by decide +kernel
theorem dX1_init_0 : decode cX1_init 0 = .ok (.aload_n 0, 1) := by decide +kernel
theorem dX1_init_1 : decode cX1_init 1 = .ok (.invokespecial 1, 3) := by decide +kernel
theorem dX1_init_4 : decode cX1_init 4 = .ok (.return_, 1) := by decide +kernel
theorem dX1_fill_0 : decode cX1_fill 0 = .ok (.aload_n 0, 1) := by decide +kernel
theorem dX1_fill_1 : decode cX1_fill 1 = .ok (.iconst 1, 1) := by decide +kernel
theorem dX1_fill_2 : decode cX1_fill 2 = .ok (.putfield 7, 3) := by decide +kernel
theorem dX1_fill_5 : decode cX1_fill 5 = .ok (.aload_n 0, 1) := by decide +kernel
theorem dX1_fill_6 : decode cX1_fill 6 = .ok (.iload_n 1, 1) := by decide +kernel
theorem dX1_fill_7 : decode cX1_fill 7 = .ok (.putfield 13, 3) := by decide +kernel
theorem dX1_fill_10 : decode cX1_fill 10 = .ok (.aload_n 0, 1) := by decide +kernel
theorem dX1_fill_11 : decode cX1_fill 11 = .ok (.iload_n 2, 1) := by decide +kernel
theorem dX1_fill_12 : decode cX1_fill 12 = .ok (.putfield 17, 3) := by decide +kernel
theorem dX1_fill_15 : decode cX1_fill 15 = .ok (.aload_n 0, 1) := by decide +kernel
theorem dX1_fill_16 : decode cX1_fill 16 = .ok (.iload_n 3, 1) := by decide +kernel
theorem dX1_fill_17 : decode cX1_fill 17 = .ok (.putfield 20, 3) := by decide +kernel
theorem dX1_fill_20 : decode cX1_fill 20 = .ok (.aload_n 0, 1) := by decide +kernel
theorem dX1_fill_21 : decode cX1_fill 21 = .ok (.iload 4, 2) := by decide +kernel
theorem dX1_fill_23 : decode cX1_fill 23 = .ok (.putfield 23, 3) := by decide +kernel
theorem dX1_fill_26 : decode cX1_fill 26 = .ok (.aload_n 0, 1) := by decide +kernel
theorem dX1_fill_27 : decode cX1_fill 27 = .ok (.iload 5, 2) := by decide +kernel
theorem dX1_fill_29 : decode cX1_fill 29 = .ok (.putfield 26, 3) := by decide +kernel
theorem dX1_fill_32 : decode cX1_fill 32 = .ok (.aload_n 0, 1) := by decide +kernel
theorem dX1_fill_33 : decode cX1_fill 33 = .ok (.iload 6, 2) := by decide +kernel
theorem dX1_fill_35 : decode cX1_fill 35 = .ok (.putfield 29, 3) := by decide +kernel
theorem dX1_fill_38 : decode cX1_fill 38 = .ok (.aload_n 0, 1) := by decide +kernel
theorem dX1_fill_39 : decode cX1_fill 39 = .ok (.iload 7, 2) := by decide +kernel
theorem dX1_fill_41 : decode cX1_fill 41 = .ok (.putfield 32, 3) := by decide +kernel
theorem dX1_fill_44 : decode cX1_fill 44 = .ok (.return_, 1) := by decide +kernel
theorem dX2_init_0 : decode cX2_init 0 = .ok (.aload_n 0, 1) := by decide +kernel
theorem dX2_init_1 : decode cX2_init 1 = .ok (.invokespecial 1, 3) := by decide +kernel
theorem dX2_init_4 : decode cX2_init 4 = .ok (.aload_n 0, 1) := by decide +kernel
theorem dX2_init_5 : decode cX2_init 5 = .ok (.bipush 12, 2) := by decide +kernel
theorem dX2_init_7 : decode cX2_init 7 = .ok (.anewarray 9, 3) := by decide +kernel
theorem dX2_init_10 : decode cX2_init 10 = .ok (.putfield 11, 3) := by decide +kernel
theorem dX2_init_13 : decode cX2_init 13 = .ok (.iconst 0, 1) := by decide +kernel
theorem dX2_init_14 : decode cX2_init 14 = .ok (.istore_n 1, 1) := by decide +kernel
theorem dX2_init_15 : decode cX2_init 15 = .ok (.iload_n 1, 1) := by decide +kernel
theorem dX2_init_16 : decode cX2_init 16 = .ok (.bipush 12, 2) := by decide +kernel
theorem dX2_init_18 : decode cX2_init 18 = .ok (.if_icmp .ge 22, 3) := by decide +kernel
theorem dX2_init_21 : decode cX2_init 21 = .ok (.aload_n 0, 1) := by decide +kernel
theorem dX2_init_22 : decode cX2_init 22 = .ok (.getfield 11, 3) := by decide +kernel
theorem dX2_init_25 : decode cX2_init 25 = .ok (.iload_n 1, 1) := by decide +kernel
theorem dX2_init_26 : decode cX2_init 26 = .ok (.new 9, 3) := by decide +kernel
theorem dX2_init_29 : decode cX2_init 29 = .ok (.dup, 1) := by decide +kernel
theorem dX2_init_30 : decode cX2_init 30 = .ok (.invokespecial 15, 3) := by decide +kernel
theorem dX2_init_33 : decode cX2_init 33 = .ok (.aastore, 1) := by decide +kernel
theorem dX2_init_34 : decode cX2_init 34 = .ok (.iinc 1 1, 3) := by decide +kernel
theorem dX2_init_37 : decode cX2_init 37 = .ok (.goto (-22), 3) := by decide +kernel
theorem dX2_init_40 : decode cX2_init 40 = .ok (.aload_n 0, 1) := by decide +kernel
theorem dX2_init_41 : decode cX2_init 41 = .ok (.iconst 5, 1) := by decide +kernel
theorem dX2_init_42 : decode cX2_init 42 = .ok (.anewarray 16, 3) := by decide +kernel
theorem dX2_init_45 : decode cX2_init 45 = .ok (.putfield 18, 3) := by decide +kernel
theorem dX2_init_48 : decode cX2_init 48 = .ok (.iconst 0, 1) := by decide +kernel
theorem dX2_init_49 : decode cX2_init 49 = .ok (.istore_n 1, 1) := by decide +kernel
theorem dX2_init_50 : decode cX2_init 50 = .ok (.iload_n 1, 1) := by decide +kernel
theorem dX2_init_51 : decode cX2_init 51 = .ok (.iconst 5, 1) := by decide +kernel
theorem dX2_init_52 : decode cX2_init 52 = .ok (.if_icmp .ge 22, 3) := by decide +kernel
theorem dX2_init_55 : decode cX2_init 55 = .ok (.aload_n 0, 1) := by decide +kernel
theorem dX2_init_56 : decode cX2_init 56 = .ok (.getfield 18, 3) := by decide +kernel
theorem dX2_init_59 : decode cX2_init 59 = .ok (.iload_n 1, 1) := by decide +kernel
theorem dX2_init_60 : decode cX2_init 60 = .ok (.new 16, 3) := by decide +kernel
theorem dX2_init_63 : decode cX2_init 63 = .ok (.dup, 1) := by decide +kernel
theorem dX2_init_64 : decode cX2_init 64 = .ok (.invokespecial 22, 3) := by decide +kernel
theorem dX2_init_67 : decode cX2_init 67 = .ok (.aastore, 1) := by decide +kernel
theorem dX2_init_68 : decode cX2_init 68 = .ok (.iinc 1 1, 3) := by decide +kernel
theorem dX2_init_71 : decode cX2_init 71 = .ok (.goto (-21), 3) := by decide +kernel
theorem dX2_init_74 : decode cX2_init 74 = .ok (.aload_n 0, 1) := by decide +kernel
theorem dX2_init_75 : decode cX2_init 75 = .ok (.bipush 12, 2) := by decide +kernel
theorem dX2_init_77 : decode cX2_init 77 = .ok (.newarray .int, 2) := by decide +kernel
theorem dX2_init_79 : decode cX2_init 79 = .ok (.putfield 23, 3) := by decide +kernel
theorem dX2_init_82 : decode cX2_init 82 = .ok (.aload_n 0, 1) := by decide +kernel
theorem dX2_init_83 : decode cX2_init 83 = .ok (.bipush 12, 2) := by decide +kernel
theorem dX2_init_85 : decode cX2_init 85 = .ok (.newarray .int, 2) := by decide +kernel
theorem dX2_init_87 : decode cX2_init 87 = .ok (.putfield 27, 3) := by decide +kernel
theorem dX2_init_90 : decode cX2_init 90 = .ok (.aload_n 0, 1) := by decide +kernel
theorem dX2_init_91 : decode cX2_init 91 = .ok (.bipush 13, 2) := by decide +kernel
theorem dX2_init_93 : decode cX2_init 93 = .ok (.newarray .int, 2) := by decide +kernel
theorem dX2_init_95 : decode cX2_init 95 = .ok (.putfield 30, 3) := by decide +kernel
theorem dX2_init_98 : decode cX2_init 98 = .ok (.return_, 1) := by decide +kernel
theorem dX2_install_0 : decode cX2_install 0 = .ok (.iload_n 1, 1) := by decide +kernel
theorem dX2_install_1 : decode cX2_install 1 = .ok (.iconst 0, 1) := by decide +kernel
theorem dX2_install_2 : decode cX2_install 2 = .ok (.iconst 3, 1) := by decide +kernel
theorem dX2_install_3 : decode cX2_install 3 = .ok (.invokestatic 33, 3) := by decide +kernel
theorem dX2_install_6 : decode cX2_install 6 = .ok (.ifCond .eq 46, 3) := by decide +kernel
theorem dX2_install_9 : decode cX2_install 9 = .ok (.iload_n 2, 1) := by decide +kernel
theorem dX2_install_10 : decode cX2_install 10 = .ok (.iload_n 3, 1) := by decide +kernel
theorem dX2_install_11 : decode cX2_install 11 = .ok (.invokestatic 37, 3) := by decide +kernel
theorem dX2_install_14 : decode cX2_install 14 = .ok (.ifCond .eq 38, 3) := by decide +kernel
theorem dX2_install_17 : decode cX2_install 17 = .ok (.iload 4, 2) := by decide +kernel
theorem dX2_install_19 : decode cX2_install 19 = .ok (.invokestatic 41, 3) := by decide +kernel
theorem dX2_install_22 : decode cX2_install 22 = .ok (.ifCond .eq 30, 3) := by decide +kernel
theorem dX2_install_25 : decode cX2_install 25 = .ok (.iload 5, 2) := by decide +kernel
theorem dX2_install_27 : decode cX2_install 27 = .ok (.invokestatic 41, 3) := by decide +kernel
theorem dX2_install_30 : decode cX2_install 30 = .ok (.ifCond .eq 22, 3) := by decide +kernel
theorem dX2_install_33 : decode cX2_install 33 = .ok (.iload 6, 2) := by decide +kernel
theorem dX2_install_35 : decode cX2_install 35 = .ok (.iconst 1, 1) := by decide +kernel
theorem dX2_install_36 : decode cX2_install 36 = .ok (.bipush 16, 2) := by decide +kernel
theorem dX2_install_38 : decode cX2_install 38 = .ok (.invokestatic 33, 3) := by decide +kernel
theorem dX2_install_41 : decode cX2_install 41 = .ok (.ifCond .eq 11, 3) := by decide +kernel
theorem dX2_install_44 : decode cX2_install 44 = .ok (.iload 7, 2) := by decide +kernel
theorem dX2_install_46 : decode cX2_install 46 = .ok (.invokestatic 45, 3) := by decide +kernel
theorem dX2_install_49 : decode cX2_install 49 = .ok (.ifCond .ne 13, 3) := by decide +kernel
theorem dX2_install_52 : decode cX2_install 52 = .ok (.new 48, 3) := by decide +kernel
theorem dX2_install_55 : decode cX2_install 55 = .ok (.dup, 1) := by decide +kernel
theorem dX2_install_56 : decode cX2_install 56 = .ok (.ldc 50, 2) := by decide +kernel
theorem dX2_install_58 : decode cX2_install 58 = .ok (.invokespecial 52, 3) := by decide +kernel
theorem dX2_install_61 : decode cX2_install 61 = .ok (.athrow, 1) := by decide +kernel
theorem dX2_install_62 : decode cX2_install 62 = .ok (.aload_n 0, 1) := by decide +kernel
theorem dX2_install_63 : decode cX2_install 63 = .ok (.getfield 55, 3) := by decide +kernel
theorem dX2_install_66 : decode cX2_install 66 = .ok (.bipush 6, 2) := by decide +kernel
theorem dX2_install_68 : decode cX2_install 68 = .ok (.if_icmp .ge 12, 3) := by decide +kernel
theorem dX2_install_71 : decode cX2_install 71 = .ok (.aload_n 0, 1) := by decide +kernel
theorem dX2_install_72 : decode cX2_install 72 = .ok (.getfield 59, 3) := by decide +kernel
theorem dX2_install_75 : decode cX2_install 75 = .ok (.bipush 12, 2) := by decide +kernel
theorem dX2_install_77 : decode cX2_install 77 = .ok (.if_icmp .lt 13, 3) := by decide +kernel
theorem dX2_install_80 : decode cX2_install 80 = .ok (.new 62, 3) := by decide +kernel
theorem dX2_install_83 : decode cX2_install 83 = .ok (.dup, 1) := by decide +kernel
theorem dX2_install_84 : decode cX2_install 84 = .ok (.ldc 64, 2) := by decide +kernel
theorem dX2_install_86 : decode cX2_install 86 = .ok (.invokespecial 66, 3) := by decide +kernel
theorem dX2_install_89 : decode cX2_install 89 = .ok (.athrow, 1) := by decide +kernel
theorem dX2_install_90 : decode cX2_install 90 = .ok (.aload_n 0, 1) := by decide +kernel
theorem dX2_install_91 : decode cX2_install 91 = .ok (.getfield 59, 3) := by decide +kernel
theorem dX2_install_94 : decode cX2_install 94 = .ok (.istore 8, 2) := by decide +kernel
theorem dX2_install_96 : decode cX2_install 96 = .ok (.aload_n 0, 1) := by decide +kernel
theorem dX2_install_97 : decode cX2_install 97 = .ok (.getfield 11, 3) := by decide +kernel
theorem dX2_install_100 : decode cX2_install 100 = .ok (.iload 8, 2) := by decide +kernel
theorem dX2_install_102 : decode cX2_install 102 = .ok (.aaload, 1) := by decide +kernel
theorem dX2_install_103 : decode cX2_install 103 = .ok (.iload_n 1, 1) := by decide +kernel
theorem dX2_install_104 : decode cX2_install 104 = .ok (.iload_n 2, 1) := by decide +kernel
theorem dX2_install_105 : decode cX2_install 105 = .ok (.iload_n 3, 1) := by decide +kernel
theorem dX2_install_106 : decode cX2_install 106 = .ok (.iload 4, 2) := by decide +kernel
theorem dX2_install_108 : decode cX2_install 108 = .ok (.iload 5, 2) := by decide +kernel
theorem dX2_install_110 : decode cX2_install 110 = .ok (.iload 6, 2) := by decide +kernel
theorem dX2_install_112 : decode cX2_install 112 = .ok (.iload 7, 2) := by decide +kernel
theorem dX2_install_114 : decode cX2_install 114 = .ok (.invokevirtual 67, 3) := by decide +kernel
theorem dX2_install_117 : decode cX2_install 117 = .ok (.aload_n 0, 1) := by decide +kernel
theorem dX2_install_118 : decode cX2_install 118 = .ok (.dup, 1) := by decide +kernel
theorem dX2_install_119 : decode cX2_install 119 = .ok (.getfield 59, 3) := by decide +kernel
theorem dX2_install_122 : decode cX2_install 122 = .ok (.iconst 1, 1) := by decide +kernel
theorem dX2_install_123 : decode cX2_install 123 = .ok (.iadd, 1) := by decide +kernel
theorem dX2_install_124 : decode cX2_install 124 = .ok (.putfield 59, 3) := by decide +kernel
theorem dX2_install_127 : decode cX2_install 127 = .ok (.aload_n 0, 1) := by decide +kernel
theorem dX2_install_128 : decode cX2_install 128 = .ok (.dup, 1) := by decide +kernel
theorem dX2_install_129 : decode cX2_install 129 = .ok (.getfield 55, 3) := by decide +kernel
theorem dX2_install_132 : decode cX2_install 132 = .ok (.iconst 1, 1) := by decide +kernel
theorem dX2_install_133 : decode cX2_install 133 = .ok (.iadd, 1) := by decide +kernel
theorem dX2_install_134 : decode cX2_install 134 = .ok (.putfield 55, 3) := by decide +kernel
theorem dX2_install_137 : decode cX2_install 137 = .ok (.iload 8, 2) := by decide +kernel
theorem dX2_install_139 : decode cX2_install 139 = .ok (.ireturn, 1) := by decide +kernel
theorem dX2_retire_0 : decode cX2_retire 0 = .ok (.aload_n 0, 1) := by decide +kernel
theorem dX2_retire_1 : decode cX2_retire 1 = .ok (.iload_n 1, 1) := by decide +kernel
theorem dX2_retire_2 : decode cX2_retire 2 = .ok (.invokevirtual 71, 3) := by decide +kernel
theorem dX2_retire_5 : decode cX2_retire 5 = .ok (.iconst 0, 1) := by decide +kernel
theorem dX2_retire_6 : decode cX2_retire 6 = .ok (.putfield 75, 3) := by decide +kernel
theorem dX2_retire_9 : decode cX2_retire 9 = .ok (.aload_n 0, 1) := by decide +kernel
theorem dX2_retire_10 : decode cX2_retire 10 = .ok (.dup, 1) := by decide +kernel
theorem dX2_retire_11 : decode cX2_retire 11 = .ok (.getfield 55, 3) := by decide +kernel
theorem dX2_retire_14 : decode cX2_retire 14 = .ok (.iconst 1, 1) := by decide +kernel
theorem dX2_retire_15 : decode cX2_retire 15 = .ok (.isub, 1) := by decide +kernel
theorem dX2_retire_16 : decode cX2_retire 16 = .ok (.putfield 55, 3) := by decide +kernel
theorem dX2_retire_19 : decode cX2_retire 19 = .ok (.aload_n 0, 1) := by decide +kernel
theorem dX2_retire_20 : decode cX2_retire 20 = .ok (.getfield 55, 3) := by decide +kernel
theorem dX2_retire_23 : decode cX2_retire 23 = .ok (.ireturn, 1) := by decide +kernel
theorem dX2_moveTo_0 : decode cX2_moveTo 0 = .ok (.aload_n 0, 1) := by decide +kernel
theorem dX2_moveTo_1 : decode cX2_moveTo 1 = .ok (.iload_n 1, 1) := by decide +kernel
theorem dX2_moveTo_2 : decode cX2_moveTo 2 = .ok (.invokevirtual 71, 3) := by decide +kernel
theorem dX2_moveTo_5 : decode cX2_moveTo 5 = .ok (.astore 4, 2) := by decide +kernel
theorem dX2_moveTo_7 : decode cX2_moveTo 7 = .ok (.iload_n 2, 1) := by decide +kernel
theorem dX2_moveTo_8 : decode cX2_moveTo 8 = .ok (.invokestatic 41, 3) := by decide +kernel
theorem dX2_moveTo_11 : decode cX2_moveTo 11 = .ok (.ifCond .eq 10, 3) := by decide +kernel
theorem dX2_moveTo_14 : decode cX2_moveTo 14 = .ok (.iload_n 3, 1) := by decide +kernel
theorem dX2_moveTo_15 : decode cX2_moveTo 15 = .ok (.invokestatic 41, 3) := by decide +kernel
theorem dX2_moveTo_18 : decode cX2_moveTo 18 = .ok (.ifCond .ne 13, 3) := by decide +kernel
theorem dX2_moveTo_21 : decode cX2_moveTo 21 = .ok (.new 48, 3) := by decide +kernel
theorem dX2_moveTo_24 : decode cX2_moveTo 24 = .ok (.dup, 1) := by decide +kernel
theorem dX2_moveTo_25 : decode cX2_moveTo 25 = .ok (.ldc 79, 2) := by decide +kernel
theorem dX2_moveTo_27 : decode cX2_moveTo 27 = .ok (.invokespecial 52, 3) := by decide +kernel
theorem dX2_moveTo_30 : decode cX2_moveTo 30 = .ok (.athrow, 1) := by decide +kernel
theorem dX2_moveTo_31 : decode cX2_moveTo 31 = .ok (.aload 4, 2) := by decide +kernel
theorem dX2_moveTo_33 : decode cX2_moveTo 33 = .ok (.getfield 81, 3) := by decide +kernel
theorem dX2_moveTo_36 : decode cX2_moveTo 36 = .ok (.istore 5, 2) := by decide +kernel
theorem dX2_moveTo_38 : decode cX2_moveTo 38 = .ok (.aload 4, 2) := by decide +kernel
theorem dX2_moveTo_40 : decode cX2_moveTo 40 = .ok (.iload_n 2, 1) := by decide +kernel
theorem dX2_moveTo_41 : decode cX2_moveTo 41 = .ok (.putfield 81, 3) := by decide +kernel
theorem dX2_moveTo_44 : decode cX2_moveTo 44 = .ok (.aload 4, 2) := by decide +kernel
theorem dX2_moveTo_46 : decode cX2_moveTo 46 = .ok (.iload_n 3, 1) := by decide +kernel
theorem dX2_moveTo_47 : decode cX2_moveTo 47 = .ok (.putfield 84, 3) := by decide +kernel
theorem dX2_moveTo_50 : decode cX2_moveTo 50 = .ok (.iload 5, 2) := by decide +kernel
theorem dX2_moveTo_52 : decode cX2_moveTo 52 = .ok (.ireturn, 1) := by decide +kernel
theorem dX2_setVersion_0 : decode cX2_setVersion 0 = .ok (.aload_n 0, 1) := by decide +kernel
theorem dX2_setVersion_1 : decode cX2_setVersion 1 = .ok (.iload_n 1, 1) := by decide +kernel
theorem dX2_setVersion_2 : decode cX2_setVersion 2 = .ok (.invokevirtual 71, 3) := by decide +kernel
theorem dX2_setVersion_5 : decode cX2_setVersion 5 = .ok (.astore 4, 2) := by decide +kernel
theorem dX2_setVersion_7 : decode cX2_setVersion 7 = .ok (.iload_n 2, 1) := by decide +kernel
theorem dX2_setVersion_8 : decode cX2_setVersion 8 = .ok (.iload_n 3, 1) := by decide +kernel
theorem dX2_setVersion_9 : decode cX2_setVersion 9 = .ok (.invokestatic 37, 3) := by decide +kernel
theorem dX2_setVersion_12 : decode cX2_setVersion 12 = .ok (.ifCond .ne 13, 3) := by decide +kernel
theorem dX2_setVersion_15 : decode cX2_setVersion 15 = .ok (.new 48, 3) := by decide +kernel
theorem dX2_setVersion_18 : decode cX2_setVersion 18 = .ok (.dup, 1) := by decide +kernel
theorem dX2_setVersion_19 : decode cX2_setVersion 19 = .ok (.ldc 87, 2) := by decide +kernel
theorem dX2_setVersion_21 : decode cX2_setVersion 21 = .ok (.invokespecial 52, 3) := by decide +kernel
theorem dX2_setVersion_24 : decode cX2_setVersion 24 = .ok (.athrow, 1) := by decide +kernel
theorem dX2_setVersion_25 : decode cX2_setVersion 25 = .ok (.aload 4, 2) := by decide +kernel
theorem dX2_setVersion_27 : decode cX2_setVersion 27 = .ok (.getfield 89, 3) := by decide +kernel
theorem dX2_setVersion_30 : decode cX2_setVersion 30 = .ok (.istore 5, 2) := by decide +kernel
theorem dX2_setVersion_32 : decode cX2_setVersion 32 = .ok (.aload 4, 2) := by decide +kernel
theorem dX2_setVersion_34 : decode cX2_setVersion 34 = .ok (.iload_n 2, 1) := by decide +kernel
theorem dX2_setVersion_35 : decode cX2_setVersion 35 = .ok (.putfield 89, 3) := by decide +kernel
theorem dX2_setVersion_38 : decode cX2_setVersion 38 = .ok (.aload 4, 2) := by decide +kernel
theorem dX2_setVersion_40 : decode cX2_setVersion 40 = .ok (.iload_n 3, 1) := by decide +kernel
theorem dX2_setVersion_41 : decode cX2_setVersion 41 = .ok (.putfield 92, 3) := by decide +kernel
theorem dX2_setVersion_44 : decode cX2_setVersion 44 = .ok (.iload 5, 2) := by decide +kernel
theorem dX2_setVersion_46 : decode cX2_setVersion 46 = .ok (.ireturn, 1) := by decide +kernel
theorem dX2_setPool_0 : decode cX2_setPool 0 = .ok (.aload_n 0, 1) := by decide +kernel
theorem dX2_setPool_1 : decode cX2_setPool 1 = .ok (.iload_n 1, 1) := by decide +kernel
theorem dX2_setPool_2 : decode cX2_setPool 2 = .ok (.invokevirtual 71, 3) := by decide +kernel
theorem dX2_setPool_5 : decode cX2_setPool 5 = .ok (.astore_n 3, 1) := by decide +kernel
theorem dX2_setPool_6 : decode cX2_setPool 6 = .ok (.iload_n 2, 1) := by decide +kernel
theorem dX2_setPool_7 : decode cX2_setPool 7 = .ok (.invokestatic 45, 3) := by decide +kernel
theorem dX2_setPool_10 : decode cX2_setPool 10 = .ok (.ifCond .ne 13, 3) := by decide +kernel
theorem dX2_setPool_13 : decode cX2_setPool 13 = .ok (.new 48, 3) := by decide +kernel
theorem dX2_setPool_16 : decode cX2_setPool 16 = .ok (.dup, 1) := by decide +kernel
theorem dX2_setPool_17 : decode cX2_setPool 17 = .ok (.ldc 95, 2) := by decide +kernel
theorem dX2_setPool_19 : decode cX2_setPool 19 = .ok (.invokespecial 52, 3) := by decide +kernel
theorem dX2_setPool_22 : decode cX2_setPool 22 = .ok (.athrow, 1) := by decide +kernel
theorem dX2_setPool_23 : decode cX2_setPool 23 = .ok (.aload_n 3, 1) := by decide +kernel
theorem dX2_setPool_24 : decode cX2_setPool 24 = .ok (.getfield 97, 3) := by decide +kernel
theorem dX2_setPool_27 : decode cX2_setPool 27 = .ok (.istore 4, 2) := by decide +kernel
theorem dX2_setPool_29 : decode cX2_setPool 29 = .ok (.aload_n 3, 1) := by decide +kernel
theorem dX2_setPool_30 : decode cX2_setPool 30 = .ok (.iload_n 2, 1) := by decide +kernel
theorem dX2_setPool_31 : decode cX2_setPool 31 = .ok (.putfield 97, 3) := by decide +kernel
theorem dX2_setPool_34 : decode cX2_setPool 34 = .ok (.iload 4, 2) := by decide +kernel
theorem dX2_setPool_36 : decode cX2_setPool 36 = .ok (.ireturn, 1) := by decide +kernel
theorem dX2_installs_0 : decode cX2_installs 0 = .ok (.aload_n 0, 1) := by decide +kernel
theorem dX2_installs_1 : decode cX2_installs 1 = .ok (.getfield 55, 3) := by decide +kernel
theorem dX2_installs_4 : decode cX2_installs 4 = .ok (.ireturn, 1) := by decide +kernel
theorem dX2_isThere_0 : decode cX2_isThere 0 = .ok (.iload_n 1, 1) := by decide +kernel
theorem dX2_isThere_1 : decode cX2_isThere 1 = .ok (.iconst 0, 1) := by decide +kernel
theorem dX2_isThere_2 : decode cX2_isThere 2 = .ok (.bipush 11, 2) := by decide +kernel
theorem dX2_isThere_4 : decode cX2_isThere 4 = .ok (.invokestatic 33, 3) := by decide +kernel
theorem dX2_isThere_7 : decode cX2_isThere 7 = .ok (.ifCond .eq 19, 3) := by decide +kernel
theorem dX2_isThere_10 : decode cX2_isThere 10 = .ok (.aload_n 0, 1) := by decide +kernel
theorem dX2_isThere_11 : decode cX2_isThere 11 = .ok (.getfield 11, 3) := by decide +kernel
theorem dX2_isThere_14 : decode cX2_isThere 14 = .ok (.iload_n 1, 1) := by decide +kernel
theorem dX2_isThere_15 : decode cX2_isThere 15 = .ok (.aaload, 1) := by decide +kernel
theorem dX2_isThere_16 : decode cX2_isThere 16 = .ok (.getfield 75, 3) := by decide +kernel
theorem dX2_isThere_19 : decode cX2_isThere 19 = .ok (.ifCond .eq 7, 3) := by decide +kernel
theorem dX2_isThere_22 : decode cX2_isThere 22 = .ok (.iconst 1, 1) := by decide +kernel
theorem dX2_isThere_23 : decode cX2_isThere 23 = .ok (.goto 4, 3) := by decide +kernel
theorem dX2_isThere_26 : decode cX2_isThere 26 = .ok (.iconst 0, 1) := by decide +kernel
theorem dX2_isThere_27 : decode cX2_isThere 27 = .ok (.ireturn, 1) := by decide +kernel
theorem dX2_entitle_0 : decode cX2_entitle 0 = .ok (.iload_n 1, 1) := by decide +kernel
theorem dX2_entitle_1 : decode cX2_entitle 1 = .ok (.iconst 1, 1) := by decide +kernel
theorem dX2_entitle_2 : decode cX2_entitle 2 = .ok (.bipush 15, 2) := by decide +kernel
theorem dX2_entitle_4 : decode cX2_entitle 4 = .ok (.invokestatic 33, 3) := by decide +kernel
theorem dX2_entitle_7 : decode cX2_entitle 7 = .ok (.ifCond .eq 44, 3) := by decide +kernel
theorem dX2_entitle_10 : decode cX2_entitle 10 = .ok (.iload_n 2, 1) := by decide +kernel
theorem dX2_entitle_11 : decode cX2_entitle 11 = .ok (.iload_n 3, 1) := by decide +kernel
theorem dX2_entitle_12 : decode cX2_entitle 12 = .ok (.invokestatic 37, 3) := by decide +kernel
theorem dX2_entitle_15 : decode cX2_entitle 15 = .ok (.ifCond .eq 36, 3) := by decide +kernel
theorem dX2_entitle_18 : decode cX2_entitle 18 = .ok (.iload 4, 2) := by decide +kernel
theorem dX2_entitle_20 : decode cX2_entitle 20 = .ok (.invokestatic 100, 3) := by decide +kernel
theorem dX2_entitle_23 : decode cX2_entitle 23 = .ok (.ifCond .eq 28, 3) := by decide +kernel
theorem dX2_entitle_26 : decode cX2_entitle 26 = .ok (.iload 5, 2) := by decide +kernel
theorem dX2_entitle_28 : decode cX2_entitle 28 = .ok (.iconst 0, 1) := by decide +kernel
theorem dX2_entitle_29 : decode cX2_entitle 29 = .ok (.bipush 99, 2) := by decide +kernel
theorem dX2_entitle_31 : decode cX2_entitle 31 = .ok (.invokestatic 33, 3) := by decide +kernel
theorem dX2_entitle_34 : decode cX2_entitle 34 = .ok (.ifCond .eq 17, 3) := by decide +kernel
theorem dX2_entitle_37 : decode cX2_entitle 37 = .ok (.iload 6, 2) := by decide +kernel
theorem dX2_entitle_39 : decode cX2_entitle 39 = .ok (.invokestatic 45, 3) := by decide +kernel
theorem dX2_entitle_42 : decode cX2_entitle 42 = .ok (.ifCond .ne 19, 3) := by decide +kernel
theorem dX2_entitle_45 : decode cX2_entitle 45 = .ok (.iload 6, 2) := by decide +kernel
theorem dX2_entitle_47 : decode cX2_entitle 47 = .ok (.iconst (-1), 1) := by decide +kernel
theorem dX2_entitle_48 : decode cX2_entitle 48 = .ok (.if_icmp .eq 13, 3) := by decide +kernel
theorem dX2_entitle_51 : decode cX2_entitle 51 = .ok (.new 48, 3) := by decide +kernel
theorem dX2_entitle_54 : decode cX2_entitle 54 = .ok (.dup, 1) := by decide +kernel
theorem dX2_entitle_55 : decode cX2_entitle 55 = .ok (.ldc 104, 2) := by decide +kernel
theorem dX2_entitle_57 : decode cX2_entitle 57 = .ok (.invokespecial 52, 3) := by decide +kernel
theorem dX2_entitle_60 : decode cX2_entitle 60 = .ok (.athrow, 1) := by decide +kernel
theorem dX2_entitle_61 : decode cX2_entitle 61 = .ok (.aload_n 0, 1) := by decide +kernel
theorem dX2_entitle_62 : decode cX2_entitle 62 = .ok (.getfield 106, 3) := by decide +kernel
theorem dX2_entitle_65 : decode cX2_entitle 65 = .ok (.iconst 5, 1) := by decide +kernel
theorem dX2_entitle_66 : decode cX2_entitle 66 = .ok (.if_icmp .lt 13, 3) := by decide +kernel
theorem dX2_entitle_69 : decode cX2_entitle 69 = .ok (.new 62, 3) := by decide +kernel
theorem dX2_entitle_72 : decode cX2_entitle 72 = .ok (.dup, 1) := by decide +kernel
theorem dX2_entitle_73 : decode cX2_entitle 73 = .ok (.ldc 109, 2) := by decide +kernel
theorem dX2_entitle_75 : decode cX2_entitle 75 = .ok (.invokespecial 66, 3) := by decide +kernel
theorem dX2_entitle_78 : decode cX2_entitle 78 = .ok (.athrow, 1) := by decide +kernel
theorem dX2_entitle_79 : decode cX2_entitle 79 = .ok (.aload_n 0, 1) := by decide +kernel
theorem dX2_entitle_80 : decode cX2_entitle 80 = .ok (.getfield 106, 3) := by decide +kernel
theorem dX2_entitle_83 : decode cX2_entitle 83 = .ok (.istore 7, 2) := by decide +kernel
theorem dX2_entitle_85 : decode cX2_entitle 85 = .ok (.aload_n 0, 1) := by decide +kernel
theorem dX2_entitle_86 : decode cX2_entitle 86 = .ok (.getfield 18, 3) := by decide +kernel
theorem dX2_entitle_89 : decode cX2_entitle 89 = .ok (.iload 7, 2) := by decide +kernel
theorem dX2_entitle_91 : decode cX2_entitle 91 = .ok (.aaload, 1) := by decide +kernel
theorem dX2_entitle_92 : decode cX2_entitle 92 = .ok (.iload_n 1, 1) := by decide +kernel
theorem dX2_entitle_93 : decode cX2_entitle 93 = .ok (.iload_n 2, 1) := by decide +kernel
theorem dX2_entitle_94 : decode cX2_entitle 94 = .ok (.iload_n 3, 1) := by decide +kernel
theorem dX2_entitle_95 : decode cX2_entitle 95 = .ok (.iload 4, 2) := by decide +kernel
theorem dX2_entitle_97 : decode cX2_entitle 97 = .ok (.iload 5, 2) := by decide +kernel
theorem dX2_entitle_99 : decode cX2_entitle 99 = .ok (.iload 6, 2) := by decide +kernel
theorem dX2_entitle_101 : decode cX2_entitle 101 = .ok (.invokevirtual 111, 3) := by decide +kernel
theorem dX2_entitle_104 : decode cX2_entitle 104 = .ok (.aload_n 0, 1) := by decide +kernel
theorem dX2_entitle_105 : decode cX2_entitle 105 = .ok (.dup, 1) := by decide +kernel
theorem dX2_entitle_106 : decode cX2_entitle 106 = .ok (.getfield 106, 3) := by decide +kernel
theorem dX2_entitle_109 : decode cX2_entitle 109 = .ok (.iconst 1, 1) := by decide +kernel
theorem dX2_entitle_110 : decode cX2_entitle 110 = .ok (.iadd, 1) := by decide +kernel
theorem dX2_entitle_111 : decode cX2_entitle 111 = .ok (.putfield 106, 3) := by decide +kernel
theorem dX2_entitle_114 : decode cX2_entitle 114 = .ok (.iload 7, 2) := by decide +kernel
theorem dX2_entitle_116 : decode cX2_entitle 116 = .ok (.ireturn, 1) := by decide +kernel
theorem dX2_setRights_0 : decode cX2_setRights 0 = .ok (.aload_n 0, 1) := by decide +kernel
theorem dX2_setRights_1 : decode cX2_setRights 1 = .ok (.iload_n 1, 1) := by decide +kernel
theorem dX2_setRights_2 : decode cX2_setRights 2 = .ok (.invokevirtual 114, 3) := by decide +kernel
theorem dX2_setRights_5 : decode cX2_setRights 5 = .ok (.astore 5, 2) := by decide +kernel
theorem dX2_setRights_7 : decode cX2_setRights 7 = .ok (.aload 5, 2) := by decide +kernel
theorem dX2_setRights_9 : decode cX2_setRights 9 = .ok (.invokevirtual 118, 3) := by decide +kernel
theorem dX2_setRights_12 : decode cX2_setRights 12 = .ok (.istore 6, 2) := by decide +kernel
theorem dX2_setRights_14 : decode cX2_setRights 14 = .ok (.aload 5, 2) := by decide +kernel
theorem dX2_setRights_16 : decode cX2_setRights 16 = .ok (.iload_n 2, 1) := by decide +kernel
theorem dX2_setRights_17 : decode cX2_setRights 17 = .ok (.putfield 122, 3) := by decide +kernel
theorem dX2_setRights_20 : decode cX2_setRights 20 = .ok (.aload 5, 2) := by decide +kernel
theorem dX2_setRights_22 : decode cX2_setRights 22 = .ok (.iload_n 3, 1) := by decide +kernel
theorem dX2_setRights_23 : decode cX2_setRights 23 = .ok (.putfield 125, 3) := by decide +kernel
theorem dX2_setRights_26 : decode cX2_setRights 26 = .ok (.aload 5, 2) := by decide +kernel
theorem dX2_setRights_28 : decode cX2_setRights 28 = .ok (.iload 4, 2) := by decide +kernel
theorem dX2_setRights_30 : decode cX2_setRights 30 = .ok (.putfield 128, 3) := by decide +kernel
theorem dX2_setRights_33 : decode cX2_setRights 33 = .ok (.iload 6, 2) := by decide +kernel
theorem dX2_setRights_35 : decode cX2_setRights 35 = .ok (.ireturn, 1) := by decide +kernel
theorem dX2_setMinimum_0 : decode cX2_setMinimum 0 = .ok (.aload_n 0, 1) := by decide +kernel
theorem dX2_setMinimum_1 : decode cX2_setMinimum 1 = .ok (.iload_n 1, 1) := by decide +kernel
theorem dX2_setMinimum_2 : decode cX2_setMinimum 2 = .ok (.invokevirtual 114, 3) := by decide +kernel
theorem dX2_setMinimum_5 : decode cX2_setMinimum 5 = .ok (.astore_n 3, 1) := by decide +kernel
theorem dX2_setMinimum_6 : decode cX2_setMinimum 6 = .ok (.iload_n 2, 1) := by decide +kernel
theorem dX2_setMinimum_7 : decode cX2_setMinimum 7 = .ok (.iconst 1, 1) := by decide +kernel
theorem dX2_setMinimum_8 : decode cX2_setMinimum 8 = .ok (.bipush 16, 2) := by decide +kernel
theorem dX2_setMinimum_10 : decode cX2_setMinimum 10 = .ok (.invokestatic 33, 3) := by decide +kernel
theorem dX2_setMinimum_13 : decode cX2_setMinimum 13 = .ok (.ifCond .ne 13, 3) := by decide +kernel
theorem dX2_setMinimum_16 : decode cX2_setMinimum 16 = .ok (.new 48, 3) := by decide +kernel
theorem dX2_setMinimum_19 : decode cX2_setMinimum 19 = .ok (.dup, 1) := by decide +kernel
theorem dX2_setMinimum_20 : decode cX2_setMinimum 20 = .ok (.ldc 131, 2) := by decide +kernel
theorem dX2_setMinimum_22 : decode cX2_setMinimum 22 = .ok (.invokespecial 52, 3) := by decide +kernel
theorem dX2_setMinimum_25 : decode cX2_setMinimum 25 = .ok (.athrow, 1) := by decide +kernel
theorem dX2_setMinimum_26 : decode cX2_setMinimum 26 = .ok (.aload_n 3, 1) := by decide +kernel
theorem dX2_setMinimum_27 : decode cX2_setMinimum 27 = .ok (.getfield 133, 3) := by decide +kernel
theorem dX2_setMinimum_30 : decode cX2_setMinimum 30 = .ok (.bipush 99, 2) := by decide +kernel
theorem dX2_setMinimum_32 : decode cX2_setMinimum 32 = .ok (.if_icmp .eq 13, 3) := by decide +kernel
theorem dX2_setMinimum_35 : decode cX2_setMinimum 35 = .ok (.new 137, 3) := by decide +kernel
theorem dX2_setMinimum_38 : decode cX2_setMinimum 38 = .ok (.dup, 1) := by decide +kernel
theorem dX2_setMinimum_39 : decode cX2_setMinimum 39 = .ok (.ldc 139, 2) := by decide +kernel
theorem dX2_setMinimum_41 : decode cX2_setMinimum 41 = .ok (.invokespecial 141, 3) := by decide +kernel
theorem dX2_setMinimum_44 : decode cX2_setMinimum 44 = .ok (.athrow, 1) := by decide +kernel
theorem dX2_setMinimum_45 : decode cX2_setMinimum 45 = .ok (.aload_n 3, 1) := by decide +kernel
theorem dX2_setMinimum_46 : decode cX2_setMinimum 46 = .ok (.getfield 142, 3) := by decide +kernel
theorem dX2_setMinimum_49 : decode cX2_setMinimum 49 = .ok (.istore 4, 2) := by decide +kernel
theorem dX2_setMinimum_51 : decode cX2_setMinimum 51 = .ok (.aload_n 3, 1) := by decide +kernel
theorem dX2_setMinimum_52 : decode cX2_setMinimum 52 = .ok (.iload_n 2, 1) := by decide +kernel
theorem dX2_setMinimum_53 : decode cX2_setMinimum 53 = .ok (.putfield 142, 3) := by decide +kernel
theorem dX2_setMinimum_56 : decode cX2_setMinimum 56 = .ok (.iload 4, 2) := by decide +kernel
theorem dX2_setMinimum_58 : decode cX2_setMinimum 58 = .ok (.ireturn, 1) := by decide +kernel
theorem dX2_setPrice_0 : decode cX2_setPrice 0 = .ok (.aload_n 0, 1) := by decide +kernel
theorem dX2_setPrice_1 : decode cX2_setPrice 1 = .ok (.iload_n 1, 1) := by decide +kernel
theorem dX2_setPrice_2 : decode cX2_setPrice 2 = .ok (.invokevirtual 114, 3) := by decide +kernel
theorem dX2_setPrice_5 : decode cX2_setPrice 5 = .ok (.astore_n 3, 1) := by decide +kernel
theorem dX2_setPrice_6 : decode cX2_setPrice 6 = .ok (.iload_n 2, 1) := by decide +kernel
theorem dX2_setPrice_7 : decode cX2_setPrice 7 = .ok (.iconst 1, 1) := by decide +kernel
theorem dX2_setPrice_8 : decode cX2_setPrice 8 = .ok (.bipush 99, 2) := by decide +kernel
theorem dX2_setPrice_10 : decode cX2_setPrice 10 = .ok (.invokestatic 33, 3) := by decide +kernel
theorem dX2_setPrice_13 : decode cX2_setPrice 13 = .ok (.ifCond .ne 13, 3) := by decide +kernel
theorem dX2_setPrice_16 : decode cX2_setPrice 16 = .ok (.new 48, 3) := by decide +kernel
theorem dX2_setPrice_19 : decode cX2_setPrice 19 = .ok (.dup, 1) := by decide +kernel
theorem dX2_setPrice_20 : decode cX2_setPrice 20 = .ok (.ldc 145, 2) := by decide +kernel
theorem dX2_setPrice_22 : decode cX2_setPrice 22 = .ok (.invokespecial 52, 3) := by decide +kernel
theorem dX2_setPrice_25 : decode cX2_setPrice 25 = .ok (.athrow, 1) := by decide +kernel
theorem dX2_setPrice_26 : decode cX2_setPrice 26 = .ok (.aload_n 3, 1) := by decide +kernel
theorem dX2_setPrice_27 : decode cX2_setPrice 27 = .ok (.getfield 147, 3) := by decide +kernel
theorem dX2_setPrice_30 : decode cX2_setPrice 30 = .ok (.istore 4, 2) := by decide +kernel
theorem dX2_setPrice_32 : decode cX2_setPrice 32 = .ok (.aload_n 3, 1) := by decide +kernel
theorem dX2_setPrice_33 : decode cX2_setPrice 33 = .ok (.iload_n 2, 1) := by decide +kernel
theorem dX2_setPrice_34 : decode cX2_setPrice 34 = .ok (.putfield 147, 3) := by decide +kernel
theorem dX2_setPrice_37 : decode cX2_setPrice 37 = .ok (.iload 4, 2) := by decide +kernel
theorem dX2_setPrice_39 : decode cX2_setPrice 39 = .ok (.ireturn, 1) := by decide +kernel
theorem dX2_addUnits_0 : decode cX2_addUnits 0 = .ok (.aload_n 0, 1) := by decide +kernel
theorem dX2_addUnits_1 : decode cX2_addUnits 1 = .ok (.iload_n 1, 1) := by decide +kernel
theorem dX2_addUnits_2 : decode cX2_addUnits 2 = .ok (.invokevirtual 114, 3) := by decide +kernel
theorem dX2_addUnits_5 : decode cX2_addUnits 5 = .ok (.astore_n 3, 1) := by decide +kernel
theorem dX2_addUnits_6 : decode cX2_addUnits 6 = .ok (.iload_n 2, 1) := by decide +kernel
theorem dX2_addUnits_7 : decode cX2_addUnits 7 = .ok (.iconst 1, 1) := by decide +kernel
theorem dX2_addUnits_8 : decode cX2_addUnits 8 = .ok (.bipush 99, 2) := by decide +kernel
theorem dX2_addUnits_10 : decode cX2_addUnits 10 = .ok (.invokestatic 33, 3) := by decide +kernel
theorem dX2_addUnits_13 : decode cX2_addUnits 13 = .ok (.ifCond .ne 13, 3) := by decide +kernel
theorem dX2_addUnits_16 : decode cX2_addUnits 16 = .ok (.new 48, 3) := by decide +kernel
theorem dX2_addUnits_19 : decode cX2_addUnits 19 = .ok (.dup, 1) := by decide +kernel
theorem dX2_addUnits_20 : decode cX2_addUnits 20 = .ok (.ldc 150, 2) := by decide +kernel
theorem dX2_addUnits_22 : decode cX2_addUnits 22 = .ok (.invokespecial 52, 3) := by decide +kernel
theorem dX2_addUnits_25 : decode cX2_addUnits 25 = .ok (.athrow, 1) := by decide +kernel
theorem dX2_addUnits_26 : decode cX2_addUnits 26 = .ok (.aload_n 3, 1) := by decide +kernel
theorem dX2_addUnits_27 : decode cX2_addUnits 27 = .ok (.getfield 152, 3) := by decide +kernel
theorem dX2_addUnits_30 : decode cX2_addUnits 30 = .ok (.iload_n 2, 1) := by decide +kernel
theorem dX2_addUnits_31 : decode cX2_addUnits 31 = .ok (.iadd, 1) := by decide +kernel
theorem dX2_addUnits_32 : decode cX2_addUnits 32 = .ok (.sipush 999, 3) := by decide +kernel
theorem dX2_addUnits_35 : decode cX2_addUnits 35 = .ok (.if_icmp .le 13, 3) := by decide +kernel
theorem dX2_addUnits_38 : decode cX2_addUnits 38 = .ok (.new 62, 3) := by decide +kernel
theorem dX2_addUnits_41 : decode cX2_addUnits 41 = .ok (.dup, 1) := by decide +kernel
theorem dX2_addUnits_42 : decode cX2_addUnits 42 = .ok (.ldc 155, 2) := by decide +kernel
theorem dX2_addUnits_44 : decode cX2_addUnits 44 = .ok (.invokespecial 66, 3) := by decide +kernel
theorem dX2_addUnits_47 : decode cX2_addUnits 47 = .ok (.athrow, 1) := by decide +kernel
theorem dX2_addUnits_48 : decode cX2_addUnits 48 = .ok (.aload_n 3, 1) := by decide +kernel
theorem dX2_addUnits_49 : decode cX2_addUnits 49 = .ok (.dup, 1) := by decide +kernel
theorem dX2_addUnits_50 : decode cX2_addUnits 50 = .ok (.getfield 152, 3) := by decide +kernel
theorem dX2_addUnits_53 : decode cX2_addUnits 53 = .ok (.iload_n 2, 1) := by decide +kernel
theorem dX2_addUnits_54 : decode cX2_addUnits 54 = .ok (.iadd, 1) := by decide +kernel
theorem dX2_addUnits_55 : decode cX2_addUnits 55 = .ok (.putfield 152, 3) := by decide +kernel
theorem dX2_addUnits_58 : decode cX2_addUnits 58 = .ok (.aload_n 3, 1) := by decide +kernel
theorem dX2_addUnits_59 : decode cX2_addUnits 59 = .ok (.getfield 152, 3) := by decide +kernel
theorem dX2_addUnits_62 : decode cX2_addUnits 62 = .ok (.ireturn, 1) := by decide +kernel
theorem dX2_units_0 : decode cX2_units 0 = .ok (.aload_n 0, 1) := by decide +kernel
theorem dX2_units_1 : decode cX2_units 1 = .ok (.iload_n 1, 1) := by decide +kernel
theorem dX2_units_2 : decode cX2_units 2 = .ok (.invokevirtual 114, 3) := by decide +kernel
theorem dX2_units_5 : decode cX2_units 5 = .ok (.getfield 152, 3) := by decide +kernel
theorem dX2_units_8 : decode cX2_units 8 = .ok (.ireturn, 1) := by decide +kernel
theorem dX2_why_0 : decode cX2_why 0 = .ok (.aload_n 0, 1) := by decide +kernel
theorem dX2_why_1 : decode cX2_why 1 = .ok (.iload_n 1, 1) := by decide +kernel
theorem dX2_why_2 : decode cX2_why 2 = .ok (.invokevirtual 71, 3) := by decide +kernel
theorem dX2_why_5 : decode cX2_why 5 = .ok (.astore_n 3, 1) := by decide +kernel
theorem dX2_why_6 : decode cX2_why 6 = .ok (.aload_n 0, 1) := by decide +kernel
theorem dX2_why_7 : decode cX2_why 7 = .ok (.iload_n 2, 1) := by decide +kernel
theorem dX2_why_8 : decode cX2_why 8 = .ok (.invokevirtual 114, 3) := by decide +kernel
theorem dX2_why_11 : decode cX2_why 11 = .ok (.aload_n 3, 1) := by decide +kernel
theorem dX2_why_12 : decode cX2_why 12 = .ok (.invokevirtual 157, 3) := by decide +kernel
theorem dX2_why_15 : decode cX2_why 15 = .ok (.ireturn, 1) := by decide +kernel
theorem dX2_fitting_0 : decode cX2_fitting 0 = .ok (.aload_n 0, 1) := by decide +kernel
theorem dX2_fitting_1 : decode cX2_fitting 1 = .ok (.aload_n 0, 1) := by decide +kernel
theorem dX2_fitting_2 : decode cX2_fitting 2 = .ok (.iload_n 1, 1) := by decide +kernel
theorem dX2_fitting_3 : decode cX2_fitting 3 = .ok (.invokevirtual 71, 3) := by decide +kernel
theorem dX2_fitting_6 : decode cX2_fitting 6 = .ok (.invokevirtual 161, 3) := by decide +kernel
theorem dX2_fitting_9 : decode cX2_fitting 9 = .ok (.ireturn, 1) := by decide +kernel
theorem dX2_firstFitting_0 : decode cX2_firstFitting 0 = .ok (.aload_n 0, 1) := by decide +kernel
theorem dX2_firstFitting_1 : decode cX2_firstFitting 1 = .ok (.iload_n 1, 1) := by decide +kernel
theorem dX2_firstFitting_2 : decode cX2_firstFitting 2 = .ok (.invokevirtual 71, 3) := by decide +kernel
theorem dX2_firstFitting_5 : decode cX2_firstFitting 5 = .ok (.astore_n 2, 1) := by decide +kernel
theorem dX2_firstFitting_6 : decode cX2_firstFitting 6 = .ok (.iconst 0, 1) := by decide +kernel
theorem dX2_firstFitting_7 : decode cX2_firstFitting 7 = .ok (.istore_n 3, 1) := by decide +kernel
theorem dX2_firstFitting_8 : decode cX2_firstFitting 8 = .ok (.iload_n 3, 1) := by decide +kernel
theorem dX2_firstFitting_9 : decode cX2_firstFitting 9 = .ok (.iconst 5, 1) := by decide +kernel
theorem dX2_firstFitting_10 : decode cX2_firstFitting 10 = .ok (.if_icmp .ge 24, 3) := by decide +kernel
theorem dX2_firstFitting_13 : decode cX2_firstFitting 13 = .ok (.aload_n 0, 1) := by decide +kernel
theorem dX2_firstFitting_14 : decode cX2_firstFitting 14 = .ok (.getfield 18, 3) := by decide +kernel
theorem dX2_firstFitting_17 : decode cX2_firstFitting 17 = .ok (.iload_n 3, 1) := by decide +kernel
theorem dX2_firstFitting_18 : decode cX2_firstFitting 18 = .ok (.aaload, 1) := by decide +kernel
theorem dX2_firstFitting_19 : decode cX2_firstFitting 19 = .ok (.aload_n 2, 1) := by decide +kernel
theorem dX2_firstFitting_20 : decode cX2_firstFitting 20 = .ok (.invokevirtual 165, 3) := by decide +kernel
theorem dX2_firstFitting_23 : decode cX2_firstFitting 23 = .ok (.ifCond .eq 5, 3) := by decide +kernel
theorem dX2_firstFitting_26 : decode cX2_firstFitting 26 = .ok (.iload_n 3, 1) := by decide +kernel
theorem dX2_firstFitting_27 : decode cX2_firstFitting 27 = .ok (.ireturn, 1) := by decide +kernel
theorem dX2_firstFitting_28 : decode cX2_firstFitting 28 = .ok (.iinc 3 1, 3) := by decide +kernel
theorem dX2_firstFitting_31 : decode cX2_firstFitting 31 = .ok (.goto (-23), 3) := by decide +kernel
theorem dX2_firstFitting_34 : decode cX2_firstFitting 34 = .ok (.new 169, 3) := by decide +kernel
theorem dX2_firstFitting_37 : decode cX2_firstFitting 37 = .ok (.dup, 1) := by decide +kernel
theorem dX2_firstFitting_38 : decode cX2_firstFitting 38 = .ok (.ldc 171, 2) := by decide +kernel
theorem dX2_firstFitting_40 : decode cX2_firstFitting 40 = .ok (.invokespecial 173, 3) := by decide +kernel
theorem dX2_firstFitting_43 : decode cX2_firstFitting 43 = .ok (.athrow, 1) := by decide +kernel
theorem dX2_unitsForAll_0 : decode cX2_unitsForAll 0 = .ok (.aload_n 0, 1) := by decide +kernel
theorem dX2_unitsForAll_1 : decode cX2_unitsForAll 1 = .ok (.iload_n 1, 1) := by decide +kernel
theorem dX2_unitsForAll_2 : decode cX2_unitsForAll 2 = .ok (.invokevirtual 114, 3) := by decide +kernel
theorem dX2_unitsForAll_5 : decode cX2_unitsForAll 5 = .ok (.astore_n 2, 1) := by decide +kernel
theorem dX2_unitsForAll_6 : decode cX2_unitsForAll 6 = .ok (.aload_n 2, 1) := by decide +kernel
theorem dX2_unitsForAll_7 : decode cX2_unitsForAll 7 = .ok (.invokevirtual 174, 3) := by decide +kernel
theorem dX2_unitsForAll_10 : decode cX2_unitsForAll 10 = .ok (.iconst 0, 1) := by decide +kernel
theorem dX2_unitsForAll_11 : decode cX2_unitsForAll 11 = .ok (.istore_n 3, 1) := by decide +kernel
theorem dX2_unitsForAll_12 : decode cX2_unitsForAll 12 = .ok (.iload_n 3, 1) := by decide +kernel
theorem dX2_unitsForAll_13 : decode cX2_unitsForAll 13 = .ok (.bipush 12, 2) := by decide +kernel
theorem dX2_unitsForAll_15 : decode cX2_unitsForAll 15 = .ok (.if_icmp .ge 32, 3) := by decide +kernel
theorem dX2_unitsForAll_18 : decode cX2_unitsForAll 18 = .ok (.aload_n 2, 1) := by decide +kernel
theorem dX2_unitsForAll_19 : decode cX2_unitsForAll 19 = .ok (.aload_n 0, 1) := by decide +kernel
theorem dX2_unitsForAll_20 : decode cX2_unitsForAll 20 = .ok (.getfield 11, 3) := by decide +kernel
theorem dX2_unitsForAll_23 : decode cX2_unitsForAll 23 = .ok (.iload_n 3, 1) := by decide +kernel
theorem dX2_unitsForAll_24 : decode cX2_unitsForAll 24 = .ok (.aaload, 1) := by decide +kernel
theorem dX2_unitsForAll_25 : decode cX2_unitsForAll 25 = .ok (.invokevirtual 165, 3) := by decide +kernel
theorem dX2_unitsForAll_28 : decode cX2_unitsForAll 28 = .ok (.ifCond .eq 13, 3) := by decide +kernel
theorem dX2_unitsForAll_31 : decode cX2_unitsForAll 31 = .ok (.aload_n 2, 1) := by decide +kernel
theorem dX2_unitsForAll_32 : decode cX2_unitsForAll 32 = .ok (.aload_n 0, 1) := by decide +kernel
theorem dX2_unitsForAll_33 : decode cX2_unitsForAll 33 = .ok (.getfield 11, 3) := by decide +kernel
theorem dX2_unitsForAll_36 : decode cX2_unitsForAll 36 = .ok (.iload_n 3, 1) := by decide +kernel
theorem dX2_unitsForAll_37 : decode cX2_unitsForAll 37 = .ok (.aaload, 1) := by decide +kernel
theorem dX2_unitsForAll_38 : decode cX2_unitsForAll 38 = .ok (.invokevirtual 177, 3) := by decide +kernel
theorem dX2_unitsForAll_41 : decode cX2_unitsForAll 41 = .ok (.iinc 3 1, 3) := by decide +kernel
theorem dX2_unitsForAll_44 : decode cX2_unitsForAll 44 = .ok (.goto (-32), 3) := by decide +kernel
theorem dX2_unitsForAll_47 : decode cX2_unitsForAll 47 = .ok (.aload_n 2, 1) := by decide +kernel
theorem dX2_unitsForAll_48 : decode cX2_unitsForAll 48 = .ok (.getfield 181, 3) := by decide +kernel
theorem dX2_unitsForAll_51 : decode cX2_unitsForAll 51 = .ok (.ireturn, 1) := by decide +kernel
theorem dX2_covered_0 : decode cX2_covered 0 = .ok (.aload_n 0, 1) := by decide +kernel
theorem dX2_covered_1 : decode cX2_covered 1 = .ok (.invokevirtual 184, 3) := by decide +kernel
theorem dX2_covered_4 : decode cX2_covered 4 = .ok (.ireturn, 1) := by decide +kernel
theorem dX2_coveredByTrying_0 : decode cX2_coveredByTrying 0 = .ok (.aload_n 0, 1) := by decide +kernel
theorem dX2_coveredByTrying_1 : decode cX2_coveredByTrying 1 = .ok (.getfield 55, 3) := by decide +kernel
theorem dX2_coveredByTrying_4 : decode cX2_coveredByTrying 4 = .ok (.iconst 4, 1) := by decide +kernel
theorem dX2_coveredByTrying_5 : decode cX2_coveredByTrying 5 = .ok (.if_icmp .le 13, 3) := by decide +kernel
theorem dX2_coveredByTrying_8 : decode cX2_coveredByTrying 8 = .ok (.new 137, 3) := by decide +kernel
theorem dX2_coveredByTrying_11 : decode cX2_coveredByTrying 11 = .ok (.dup, 1) := by decide +kernel
theorem dX2_coveredByTrying_12 : decode cX2_coveredByTrying 12 = .ok (.ldc 187, 2) := by decide +kernel
theorem dX2_coveredByTrying_14 : decode cX2_coveredByTrying 14 = .ok (.invokespecial 141, 3) := by decide +kernel
theorem dX2_coveredByTrying_17 : decode cX2_coveredByTrying 17 = .ok (.athrow, 1) := by decide +kernel
theorem dX2_coveredByTrying_18 : decode cX2_coveredByTrying 18 = .ok (.aload_n 0, 1) := by decide +kernel
theorem dX2_coveredByTrying_19 : decode cX2_coveredByTrying 19 = .ok (.iconst (-1), 1) := by decide +kernel
theorem dX2_coveredByTrying_20 : decode cX2_coveredByTrying 20 = .ok (.invokevirtual 189, 3) := by decide +kernel
theorem dX2_coveredByTrying_23 : decode cX2_coveredByTrying 23 = .ok (.aload_n 0, 1) := by decide +kernel
theorem dX2_coveredByTrying_24 : decode cX2_coveredByTrying 24 = .ok (.iconst 0, 1) := by decide +kernel
theorem dX2_coveredByTrying_25 : decode cX2_coveredByTrying 25 = .ok (.invokestatic 193, 3) := by decide +kernel
theorem dX2_coveredByTrying_28 : decode cX2_coveredByTrying 28 = .ok (.aload_n 0, 1) := by decide +kernel
theorem dX2_coveredByTrying_29 : decode cX2_coveredByTrying 29 = .ok (.getfield 197, 3) := by decide +kernel
theorem dX2_coveredByTrying_32 : decode cX2_coveredByTrying 32 = .ok (.ireturn, 1) := by decide +kernel
theorem dX2_entitlementOf_0 : decode cX2_entitlementOf 0 = .ok (.aload_n 0, 1) := by decide +kernel
theorem dX2_entitlementOf_1 : decode cX2_entitlementOf 1 = .ok (.iload_n 1, 1) := by decide +kernel
theorem dX2_entitlementOf_2 : decode cX2_entitlementOf 2 = .ok (.invokevirtual 200, 3) := by decide +kernel
theorem dX2_entitlementOf_5 : decode cX2_entitlementOf 5 = .ok (.istore_n 2, 1) := by decide +kernel
theorem dX2_entitlementOf_6 : decode cX2_entitlementOf 6 = .ok (.iload_n 2, 1) := by decide +kernel
theorem dX2_entitlementOf_7 : decode cX2_entitlementOf 7 = .ok (.iconst (-1), 1) := by decide +kernel
theorem dX2_entitlementOf_8 : decode cX2_entitlementOf 8 = .ok (.if_icmp .ne 13, 3) := by decide +kernel
theorem dX2_entitlementOf_11 : decode cX2_entitlementOf 11 = .ok (.new 169, 3) := by decide +kernel
theorem dX2_entitlementOf_14 : decode cX2_entitlementOf 14 = .ok (.dup, 1) := by decide +kernel
theorem dX2_entitlementOf_15 : decode cX2_entitlementOf 15 = .ok (.ldc 204, 2) := by decide +kernel
theorem dX2_entitlementOf_17 : decode cX2_entitlementOf 17 = .ok (.invokespecial 173, 3) := by decide +kernel
theorem dX2_entitlementOf_20 : decode cX2_entitlementOf 20 = .ok (.athrow, 1) := by decide +kernel
theorem dX2_entitlementOf_21 : decode cX2_entitlementOf 21 = .ok (.iload_n 2, 1) := by decide +kernel
theorem dX2_entitlementOf_22 : decode cX2_entitlementOf 22 = .ok (.ireturn, 1) := by decide +kernel
theorem dX2_reason_0 : decode cX2_reason 0 = .ok (.aload_n 0, 1) := by decide +kernel
theorem dX2_reason_1 : decode cX2_reason 1 = .ok (.iload_n 1, 1) := by decide +kernel
theorem dX2_reason_2 : decode cX2_reason 2 = .ok (.invokevirtual 200, 3) := by decide +kernel
theorem dX2_reason_5 : decode cX2_reason 5 = .ok (.iconst (-1), 1) := by decide +kernel
theorem dX2_reason_6 : decode cX2_reason 6 = .ok (.if_icmp .eq 6, 3) := by decide +kernel
theorem dX2_reason_9 : decode cX2_reason 9 = .ok (.bipush 99, 2) := by decide +kernel
theorem dX2_reason_11 : decode cX2_reason 11 = .ok (.ireturn, 1) := by decide +kernel
theorem dX2_reason_12 : decode cX2_reason 12 = .ok (.aload_n 0, 1) := by decide +kernel
theorem dX2_reason_13 : decode cX2_reason 13 = .ok (.iload_n 1, 1) := by decide +kernel
theorem dX2_reason_14 : decode cX2_reason 14 = .ok (.invokevirtual 206, 3) := by decide +kernel
theorem dX2_reason_17 : decode cX2_reason 17 = .ok (.ifCond .ne 8, 3) := by decide +kernel
theorem dX2_reason_20 : decode cX2_reason 20 = .ok (.bipush 110, 2) := by decide +kernel
theorem dX2_reason_22 : decode cX2_reason 22 = .ok (.goto 5, 3) := by decide +kernel
theorem dX2_reason_25 : decode cX2_reason 25 = .ok (.bipush 117, 2) := by decide +kernel
theorem dX2_reason_27 : decode cX2_reason 27 = .ok (.ireturn, 1) := by decide +kernel
theorem dX2_used_0 : decode cX2_used 0 = .ok (.aload_n 0, 1) := by decide +kernel
theorem dX2_used_1 : decode cX2_used 1 = .ok (.iload_n 1, 1) := by decide +kernel
theorem dX2_used_2 : decode cX2_used 2 = .ok (.invokevirtual 114, 3) := by decide +kernel
theorem dX2_used_5 : decode cX2_used 5 = .ok (.astore_n 2, 1) := by decide +kernel
theorem dX2_used_6 : decode cX2_used 6 = .ok (.aload_n 0, 1) := by decide +kernel
theorem dX2_used_7 : decode cX2_used 7 = .ok (.invokevirtual 184, 3) := by decide +kernel
theorem dX2_used_10 : decode cX2_used 10 = .ok (.pop, 1) := by decide +kernel
theorem dX2_used_11 : decode cX2_used 11 = .ok (.aload_n 0, 1) := by decide +kernel
theorem dX2_used_12 : decode cX2_used 12 = .ok (.invokevirtual 209, 3) := by decide +kernel
theorem dX2_used_15 : decode cX2_used 15 = .ok (.aload_n 2, 1) := by decide +kernel
theorem dX2_used_16 : decode cX2_used 16 = .ok (.getfield 181, 3) := by decide +kernel
theorem dX2_used_19 : decode cX2_used 19 = .ok (.ireturn, 1) := by decide +kernel
theorem dX2_spare_0 : decode cX2_spare 0 = .ok (.aload_n 0, 1) := by decide +kernel
theorem dX2_spare_1 : decode cX2_spare 1 = .ok (.iload_n 1, 1) := by decide +kernel
theorem dX2_spare_2 : decode cX2_spare 2 = .ok (.invokevirtual 212, 3) := by decide +kernel
theorem dX2_spare_5 : decode cX2_spare 5 = .ok (.istore_n 2, 1) := by decide +kernel
theorem dX2_spare_6 : decode cX2_spare 6 = .ok (.aload_n 0, 1) := by decide +kernel
theorem dX2_spare_7 : decode cX2_spare 7 = .ok (.iload_n 1, 1) := by decide +kernel
theorem dX2_spare_8 : decode cX2_spare 8 = .ok (.invokevirtual 114, 3) := by decide +kernel
theorem dX2_spare_11 : decode cX2_spare 11 = .ok (.getfield 152, 3) := by decide +kernel
theorem dX2_spare_14 : decode cX2_spare 14 = .ok (.iload_n 2, 1) := by decide +kernel
theorem dX2_spare_15 : decode cX2_spare 15 = .ok (.isub, 1) := by decide +kernel
theorem dX2_spare_16 : decode cX2_spare 16 = .ok (.ireturn, 1) := by decide +kernel
theorem dX2_purchase_0 : decode cX2_purchase 0 = .ok (.aload_n 0, 1) := by decide +kernel
theorem dX2_purchase_1 : decode cX2_purchase 1 = .ok (.invokevirtual 215, 3) := by decide +kernel
theorem dX2_purchase_4 : decode cX2_purchase 4 = .ok (.aload_n 0, 1) := by decide +kernel
theorem dX2_purchase_5 : decode cX2_purchase 5 = .ok (.invokevirtual 218, 3) := by decide +kernel
theorem dX2_purchase_8 : decode cX2_purchase 8 = .ok (.ireturn, 1) := by decide +kernel
theorem dX2_purchaseByTrying_0 : decode cX2_purchaseByTrying 0 = .ok (.aload_n 0, 1) := by decide +kernel
theorem dX2_purchaseByTrying_1 : decode cX2_purchaseByTrying 1 = .ok (.getfield 55, 3) := by decide +kernel
theorem dX2_purchaseByTrying_4 : decode cX2_purchaseByTrying 4 = .ok (.iconst 4, 1) := by decide +kernel
theorem dX2_purchaseByTrying_5 : decode cX2_purchaseByTrying 5 = .ok (.if_icmp .le 13, 3) := by decide +kernel
theorem dX2_purchaseByTrying_8 : decode cX2_purchaseByTrying 8 = .ok (.new 137, 3) := by decide +kernel
theorem dX2_purchaseByTrying_11 : decode cX2_purchaseByTrying 11 = .ok (.dup, 1) := by decide +kernel
theorem dX2_purchaseByTrying_12 : decode cX2_purchaseByTrying 12 = .ok (.ldc 187, 2) := by decide +kernel
theorem dX2_purchaseByTrying_14 : decode cX2_purchaseByTrying 14 = .ok (.invokespecial 141, 3) := by decide +kernel
theorem dX2_purchaseByTrying_17 : decode cX2_purchaseByTrying 17 = .ok (.athrow, 1) := by decide +kernel
theorem dX2_purchaseByTrying_18 : decode cX2_purchaseByTrying 18 = .ok (.aload_n 0, 1) := by decide +kernel
theorem dX2_purchaseByTrying_19 : decode cX2_purchaseByTrying 19 = .ok (.invokevirtual 215, 3) := by decide +kernel
theorem dX2_purchaseByTrying_22 : decode cX2_purchaseByTrying 22 = .ok (.aload_n 0, 1) := by decide +kernel
theorem dX2_purchaseByTrying_23 : decode cX2_purchaseByTrying 23 = .ok (.ldc 223, 2) := by decide +kernel
theorem dX2_purchaseByTrying_25 : decode cX2_purchaseByTrying 25 = .ok (.invokevirtual 189, 3) := by decide +kernel
theorem dX2_purchaseByTrying_28 : decode cX2_purchaseByTrying 28 = .ok (.aload_n 0, 1) := by decide +kernel
theorem dX2_purchaseByTrying_29 : decode cX2_purchaseByTrying 29 = .ok (.iconst 0, 1) := by decide +kernel
theorem dX2_purchaseByTrying_30 : decode cX2_purchaseByTrying 30 = .ok (.invokestatic 224, 3) := by decide +kernel
theorem dX2_purchaseByTrying_33 : decode cX2_purchaseByTrying 33 = .ok (.aload_n 0, 1) := by decide +kernel
theorem dX2_purchaseByTrying_34 : decode cX2_purchaseByTrying 34 = .ok (.getfield 197, 3) := by decide +kernel
theorem dX2_purchaseByTrying_37 : decode cX2_purchaseByTrying 37 = .ok (.ireturn, 1) := by decide +kernel
theorem dX2_toBuy_0 : decode cX2_toBuy 0 = .ok (.aload_n 0, 1) := by decide +kernel
theorem dX2_toBuy_1 : decode cX2_toBuy 1 = .ok (.iload_n 1, 1) := by decide +kernel
theorem dX2_toBuy_2 : decode cX2_toBuy 2 = .ok (.invokevirtual 114, 3) := by decide +kernel
theorem dX2_toBuy_5 : decode cX2_toBuy 5 = .ok (.astore_n 2, 1) := by decide +kernel
theorem dX2_toBuy_6 : decode cX2_toBuy 6 = .ok (.aload_n 0, 1) := by decide +kernel
theorem dX2_toBuy_7 : decode cX2_toBuy 7 = .ok (.invokevirtual 215, 3) := by decide +kernel
theorem dX2_toBuy_10 : decode cX2_toBuy 10 = .ok (.aload_n 0, 1) := by decide +kernel
theorem dX2_toBuy_11 : decode cX2_toBuy 11 = .ok (.invokevirtual 218, 3) := by decide +kernel
theorem dX2_toBuy_14 : decode cX2_toBuy 14 = .ok (.pop, 1) := by decide +kernel
theorem dX2_toBuy_15 : decode cX2_toBuy 15 = .ok (.aload_n 0, 1) := by decide +kernel
theorem dX2_toBuy_16 : decode cX2_toBuy 16 = .ok (.invokevirtual 209, 3) := by decide +kernel
theorem dX2_toBuy_19 : decode cX2_toBuy 19 = .ok (.aload_n 2, 1) := by decide +kernel
theorem dX2_toBuy_20 : decode cX2_toBuy 20 = .ok (.invokevirtual 227, 3) := by decide +kernel
theorem dX2_toBuy_23 : decode cX2_toBuy 23 = .ok (.ireturn, 1) := by decide +kernel
theorem dX2_trueUp_0 : decode cX2_trueUp 0 = .ok (.aload_n 0, 1) := by decide +kernel
theorem dX2_trueUp_1 : decode cX2_trueUp 1 = .ok (.invokevirtual 215, 3) := by decide +kernel
theorem dX2_trueUp_4 : decode cX2_trueUp 4 = .ok (.aload_n 0, 1) := by decide +kernel
theorem dX2_trueUp_5 : decode cX2_trueUp 5 = .ok (.invokevirtual 218, 3) := by decide +kernel
theorem dX2_trueUp_8 : decode cX2_trueUp 8 = .ok (.istore_n 1, 1) := by decide +kernel
theorem dX2_trueUp_9 : decode cX2_trueUp 9 = .ok (.aload_n 0, 1) := by decide +kernel
theorem dX2_trueUp_10 : decode cX2_trueUp 10 = .ok (.invokevirtual 209, 3) := by decide +kernel
theorem dX2_trueUp_13 : decode cX2_trueUp 13 = .ok (.iconst 0, 1) := by decide +kernel
theorem dX2_trueUp_14 : decode cX2_trueUp 14 = .ok (.istore_n 2, 1) := by decide +kernel
theorem dX2_trueUp_15 : decode cX2_trueUp 15 = .ok (.iload_n 2, 1) := by decide +kernel
theorem dX2_trueUp_16 : decode cX2_trueUp 16 = .ok (.iconst 5, 1) := by decide +kernel
theorem dX2_trueUp_17 : decode cX2_trueUp 17 = .ok (.if_icmp .ge 32, 3) := by decide +kernel
theorem dX2_trueUp_20 : decode cX2_trueUp 20 = .ok (.aload_n 0, 1) := by decide +kernel
theorem dX2_trueUp_21 : decode cX2_trueUp 21 = .ok (.getfield 18, 3) := by decide +kernel
theorem dX2_trueUp_24 : decode cX2_trueUp 24 = .ok (.iload_n 2, 1) := by decide +kernel
theorem dX2_trueUp_25 : decode cX2_trueUp 25 = .ok (.aaload, 1) := by decide +kernel
theorem dX2_trueUp_26 : decode cX2_trueUp 26 = .ok (.dup, 1) := by decide +kernel
theorem dX2_trueUp_27 : decode cX2_trueUp 27 = .ok (.getfield 152, 3) := by decide +kernel
theorem dX2_trueUp_30 : decode cX2_trueUp 30 = .ok (.aload_n 0, 1) := by decide +kernel
theorem dX2_trueUp_31 : decode cX2_trueUp 31 = .ok (.getfield 18, 3) := by decide +kernel
theorem dX2_trueUp_34 : decode cX2_trueUp 34 = .ok (.iload_n 2, 1) := by decide +kernel
theorem dX2_trueUp_35 : decode cX2_trueUp 35 = .ok (.aaload, 1) := by decide +kernel
theorem dX2_trueUp_36 : decode cX2_trueUp 36 = .ok (.invokevirtual 227, 3) := by decide +kernel
theorem dX2_trueUp_39 : decode cX2_trueUp 39 = .ok (.iadd, 1) := by decide +kernel
theorem dX2_trueUp_40 : decode cX2_trueUp 40 = .ok (.putfield 152, 3) := by decide +kernel
theorem dX2_trueUp_43 : decode cX2_trueUp 43 = .ok (.iinc 2 1, 3) := by decide +kernel
theorem dX2_trueUp_46 : decode cX2_trueUp 46 = .ok (.goto (-31), 3) := by decide +kernel
theorem dX2_trueUp_49 : decode cX2_trueUp 49 = .ok (.aload_n 0, 1) := by decide +kernel
theorem dX2_trueUp_50 : decode cX2_trueUp 50 = .ok (.dup, 1) := by decide +kernel
theorem dX2_trueUp_51 : decode cX2_trueUp 51 = .ok (.getfield 230, 3) := by decide +kernel
theorem dX2_trueUp_54 : decode cX2_trueUp 54 = .ok (.iload_n 1, 1) := by decide +kernel
theorem dX2_trueUp_55 : decode cX2_trueUp 55 = .ok (.i2l, 1) := by decide +kernel
theorem dX2_trueUp_56 : decode cX2_trueUp 56 = .ok (.ladd, 1) := by decide +kernel
theorem dX2_trueUp_57 : decode cX2_trueUp 57 = .ok (.putfield 230, 3) := by decide +kernel
theorem dX2_trueUp_60 : decode cX2_trueUp 60 = .ok (.iload_n 1, 1) := by decide +kernel
theorem dX2_trueUp_61 : decode cX2_trueUp 61 = .ok (.ireturn, 1) := by decide +kernel
theorem dX2_spent_0 : decode cX2_spent 0 = .ok (.aload_n 0, 1) := by decide +kernel
theorem dX2_spent_1 : decode cX2_spent 1 = .ok (.getfield 230, 3) := by decide +kernel
theorem dX2_spent_4 : decode cX2_spent 4 = .ok (.lreturn, 1) := by decide +kernel
theorem dX2_coverage_0 : decode cX2_coverage 0 = .ok (.aload_n 0, 1) := by decide +kernel
theorem dX2_coverage_1 : decode cX2_coverage 1 = .ok (.getfield 55, 3) := by decide +kernel
theorem dX2_coverage_4 : decode cX2_coverage 4 = .ok (.ifCond .ne 13, 3) := by decide +kernel
theorem dX2_coverage_7 : decode cX2_coverage 7 = .ok (.new 169, 3) := by decide +kernel
theorem dX2_coverage_10 : decode cX2_coverage 10 = .ok (.dup, 1) := by decide +kernel
theorem dX2_coverage_11 : decode cX2_coverage 11 = .ok (.ldc 234, 2) := by decide +kernel
theorem dX2_coverage_13 : decode cX2_coverage 13 = .ok (.invokespecial 173, 3) := by decide +kernel
theorem dX2_coverage_16 : decode cX2_coverage 16 = .ok (.athrow, 1) := by decide +kernel
theorem dX2_coverage_17 : decode cX2_coverage 17 = .ok (.aload_n 0, 1) := by decide +kernel
theorem dX2_coverage_18 : decode cX2_coverage 18 = .ok (.invokevirtual 184, 3) := by decide +kernel
theorem dX2_coverage_21 : decode cX2_coverage 21 = .ok (.i2f, 1) := by decide +kernel
theorem dX2_coverage_22 : decode cX2_coverage 22 = .ok (.aload_n 0, 1) := by decide +kernel
theorem dX2_coverage_23 : decode cX2_coverage 23 = .ok (.getfield 55, 3) := by decide +kernel
theorem dX2_coverage_26 : decode cX2_coverage 26 = .ok (.i2f, 1) := by decide +kernel
theorem dX2_coverage_27 : decode cX2_coverage 27 = .ok (.fdiv, 1) := by decide +kernel
theorem dX2_coverage_28 : decode cX2_coverage 28 = .ok (.freturn, 1) := by decide +kernel
theorem dX2_isBetween_0 : decode cX2_isBetween 0 = .ok (.iload_n 0, 1) := by decide +kernel
theorem dX2_isBetween_1 : decode cX2_isBetween 1 = .ok (.iload_n 1, 1) := by decide +kernel
theorem dX2_isBetween_2 : decode cX2_isBetween 2 = .ok (.if_icmp .lt 12, 3) := by decide +kernel
theorem dX2_isBetween_5 : decode cX2_isBetween 5 = .ok (.iload_n 0, 1) := by decide +kernel
theorem dX2_isBetween_6 : decode cX2_isBetween 6 = .ok (.iload_n 2, 1) := by decide +kernel
theorem dX2_isBetween_7 : decode cX2_isBetween 7 = .ok (.if_icmp .gt 7, 3) := by decide +kernel
theorem dX2_isBetween_10 : decode cX2_isBetween 10 = .ok (.iconst 1, 1) := by decide +kernel
theorem dX2_isBetween_11 : decode cX2_isBetween 11 = .ok (.goto 4, 3) := by decide +kernel
theorem dX2_isBetween_14 : decode cX2_isBetween 14 = .ok (.iconst 0, 1) := by decide +kernel
theorem dX2_isBetween_15 : decode cX2_isBetween 15 = .ok (.ireturn, 1) := by decide +kernel
theorem dX2_isRelease_0 : decode cX2_isRelease 0 = .ok (.iload_n 0, 1) := by decide +kernel
theorem dX2_isRelease_1 : decode cX2_isRelease 1 = .ok (.iconst 1, 1) := by decide +kernel
theorem dX2_isRelease_2 : decode cX2_isRelease 2 = .ok (.bipush 9, 2) := by decide +kernel
theorem dX2_isRelease_4 : decode cX2_isRelease 4 = .ok (.invokestatic 33, 3) := by decide +kernel
theorem dX2_isRelease_7 : decode cX2_isRelease 7 = .ok (.ifCond .eq 16, 3) := by decide +kernel
theorem dX2_isRelease_10 : decode cX2_isRelease 10 = .ok (.iload_n 1, 1) := by decide +kernel
theorem dX2_isRelease_11 : decode cX2_isRelease 11 = .ok (.iconst 1, 1) := by decide +kernel
theorem dX2_isRelease_12 : decode cX2_isRelease 12 = .ok (.iconst 3, 1) := by decide +kernel
theorem dX2_isRelease_13 : decode cX2_isRelease 13 = .ok (.invokestatic 33, 3) := by decide +kernel
theorem dX2_isRelease_16 : decode cX2_isRelease 16 = .ok (.ifCond .eq 7, 3) := by decide +kernel
theorem dX2_isRelease_19 : decode cX2_isRelease 19 = .ok (.iconst 1, 1) := by decide +kernel
theorem dX2_isRelease_20 : decode cX2_isRelease 20 = .ok (.goto 4, 3) := by decide +kernel
theorem dX2_isRelease_23 : decode cX2_isRelease 23 = .ok (.iconst 0, 1) := by decide +kernel
theorem dX2_isRelease_24 : decode cX2_isRelease 24 = .ok (.ireturn, 1) := by decide +kernel
theorem dX2_isHolder_0 : decode cX2_isHolder 0 = .ok (.iload_n 0, 1) := by decide +kernel
theorem dX2_isHolder_1 : decode cX2_isHolder 1 = .ok (.iconst 0, 1) := by decide +kernel
theorem dX2_isHolder_2 : decode cX2_isHolder 2 = .ok (.bipush 9, 2) := by decide +kernel
theorem dX2_isHolder_4 : decode cX2_isHolder 4 = .ok (.invokestatic 33, 3) := by decide +kernel
theorem dX2_isHolder_7 : decode cX2_isHolder 7 = .ok (.ireturn, 1) := by decide +kernel
theorem dX2_isPool_0 : decode cX2_isPool 0 = .ok (.iload_n 0, 1) := by decide +kernel
theorem dX2_isPool_1 : decode cX2_isPool 1 = .ok (.iconst 0, 1) := by decide +kernel
theorem dX2_isPool_2 : decode cX2_isPool 2 = .ok (.iconst 2, 1) := by decide +kernel
theorem dX2_isPool_3 : decode cX2_isPool 3 = .ok (.invokestatic 33, 3) := by decide +kernel
theorem dX2_isPool_6 : decode cX2_isPool 6 = .ok (.ireturn, 1) := by decide +kernel
theorem dX2_isMetric_0 : decode cX2_isMetric 0 = .ok (.iload_n 0, 1) := by decide +kernel
theorem dX2_isMetric_1 : decode cX2_isMetric 1 = .ok (.bipush 100, 2) := by decide +kernel
theorem dX2_isMetric_3 : decode cX2_isMetric 3 = .ok (.if_icmp .eq 15, 3) := by decide +kernel
theorem dX2_isMetric_6 : decode cX2_isMetric 6 = .ok (.iload_n 0, 1) := by decide +kernel
theorem dX2_isMetric_7 : decode cX2_isMetric 7 = .ok (.bipush 117, 2) := by decide +kernel
theorem dX2_isMetric_9 : decode cX2_isMetric 9 = .ok (.if_icmp .eq 9, 3) := by decide +kernel
theorem dX2_isMetric_12 : decode cX2_isMetric 12 = .ok (.iload_n 0, 1) := by decide +kernel
theorem dX2_isMetric_13 : decode cX2_isMetric 13 = .ok (.bipush 99, 2) := by decide +kernel
theorem dX2_isMetric_15 : decode cX2_isMetric 15 = .ok (.if_icmp .ne 7, 3) := by decide +kernel
theorem dX2_isMetric_18 : decode cX2_isMetric 18 = .ok (.iconst 1, 1) := by decide +kernel
theorem dX2_isMetric_19 : decode cX2_isMetric 19 = .ok (.goto 4, 3) := by decide +kernel
theorem dX2_isMetric_22 : decode cX2_isMetric 22 = .ok (.iconst 0, 1) := by decide +kernel
theorem dX2_isMetric_23 : decode cX2_isMetric 23 = .ok (.ireturn, 1) := by decide +kernel
theorem dX2_installAt_0 : decode cX2_installAt 0 = .ok (.aload_n 0, 1) := by decide +kernel
theorem dX2_installAt_1 : decode cX2_installAt 1 = .ok (.iload_n 1, 1) := by decide +kernel
theorem dX2_installAt_2 : decode cX2_installAt 2 = .ok (.invokevirtual 236, 3) := by decide +kernel
theorem dX2_installAt_5 : decode cX2_installAt 5 = .ok (.ifCond .ne 13, 3) := by decide +kernel
theorem dX2_installAt_8 : decode cX2_installAt 8 = .ok (.new 239, 3) := by decide +kernel
theorem dX2_installAt_11 : decode cX2_installAt 11 = .ok (.dup, 1) := by decide +kernel
theorem dX2_installAt_12 : decode cX2_installAt 12 = .ok (.ldc 241, 2) := by decide +kernel
theorem dX2_installAt_14 : decode cX2_installAt 14 = .ok (.invokespecial 243, 3) := by decide +kernel
theorem dX2_installAt_17 : decode cX2_installAt 17 = .ok (.athrow, 1) := by decide +kernel
theorem dX2_installAt_18 : decode cX2_installAt 18 = .ok (.aload_n 0, 1) := by decide +kernel
theorem dX2_installAt_19 : decode cX2_installAt 19 = .ok (.getfield 11, 3) := by decide +kernel
theorem dX2_installAt_22 : decode cX2_installAt 22 = .ok (.iload_n 1, 1) := by decide +kernel
theorem dX2_installAt_23 : decode cX2_installAt 23 = .ok (.aaload, 1) := by decide +kernel
theorem dX2_installAt_24 : decode cX2_installAt 24 = .ok (.areturn, 1) := by decide +kernel
theorem dX2_entitlementAt_0 : decode cX2_entitlementAt 0 = .ok (.iload_n 1, 1) := by decide +kernel
theorem dX2_entitlementAt_1 : decode cX2_entitlementAt 1 = .ok (.iconst 0, 1) := by decide +kernel
theorem dX2_entitlementAt_2 : decode cX2_entitlementAt 2 = .ok (.aload_n 0, 1) := by decide +kernel
theorem dX2_entitlementAt_3 : decode cX2_entitlementAt 3 = .ok (.getfield 106, 3) := by decide +kernel
theorem dX2_entitlementAt_6 : decode cX2_entitlementAt 6 = .ok (.iconst 1, 1) := by decide +kernel
theorem dX2_entitlementAt_7 : decode cX2_entitlementAt 7 = .ok (.isub, 1) := by decide +kernel
theorem dX2_entitlementAt_8 : decode cX2_entitlementAt 8 = .ok (.invokestatic 33, 3) := by decide +kernel
theorem dX2_entitlementAt_11 : decode cX2_entitlementAt 11 = .ok (.ifCond .ne 13, 3) := by decide +kernel
theorem dX2_entitlementAt_14 : decode cX2_entitlementAt 14 = .ok (.new 239, 3) := by decide +kernel
theorem dX2_entitlementAt_17 : decode cX2_entitlementAt 17 = .ok (.dup, 1) := by decide +kernel
theorem dX2_entitlementAt_18 : decode cX2_entitlementAt 18 = .ok (.ldc 244, 2) := by decide +kernel
theorem dX2_entitlementAt_20 : decode cX2_entitlementAt 20 = .ok (.invokespecial 243, 3) := by decide +kernel
theorem dX2_entitlementAt_23 : decode cX2_entitlementAt 23 = .ok (.athrow, 1) := by decide +kernel
theorem dX2_entitlementAt_24 : decode cX2_entitlementAt 24 = .ok (.aload_n 0, 1) := by decide +kernel
theorem dX2_entitlementAt_25 : decode cX2_entitlementAt 25 = .ok (.getfield 18, 3) := by decide +kernel
theorem dX2_entitlementAt_28 : decode cX2_entitlementAt 28 = .ok (.iload_n 1, 1) := by decide +kernel
theorem dX2_entitlementAt_29 : decode cX2_entitlementAt 29 = .ok (.aaload, 1) := by decide +kernel
theorem dX2_entitlementAt_30 : decode cX2_entitlementAt 30 = .ok (.areturn, 1) := by decide +kernel
theorem dX2_countFitting_0 : decode cX2_countFitting 0 = .ok (.iconst 0, 1) := by decide +kernel
theorem dX2_countFitting_1 : decode cX2_countFitting 1 = .ok (.istore_n 2, 1) := by decide +kernel
theorem dX2_countFitting_2 : decode cX2_countFitting 2 = .ok (.iconst 0, 1) := by decide +kernel
theorem dX2_countFitting_3 : decode cX2_countFitting 3 = .ok (.istore_n 3, 1) := by decide +kernel
theorem dX2_countFitting_4 : decode cX2_countFitting 4 = .ok (.iload_n 3, 1) := by decide +kernel
theorem dX2_countFitting_5 : decode cX2_countFitting 5 = .ok (.iconst 5, 1) := by decide +kernel
theorem dX2_countFitting_6 : decode cX2_countFitting 6 = .ok (.if_icmp .ge 25, 3) := by decide +kernel
theorem dX2_countFitting_9 : decode cX2_countFitting 9 = .ok (.aload_n 0, 1) := by decide +kernel
theorem dX2_countFitting_10 : decode cX2_countFitting 10 = .ok (.getfield 18, 3) := by decide +kernel
theorem dX2_countFitting_13 : decode cX2_countFitting 13 = .ok (.iload_n 3, 1) := by decide +kernel
theorem dX2_countFitting_14 : decode cX2_countFitting 14 = .ok (.aaload, 1) := by decide +kernel
theorem dX2_countFitting_15 : decode cX2_countFitting 15 = .ok (.aload_n 1, 1) := by decide +kernel
theorem dX2_countFitting_16 : decode cX2_countFitting 16 = .ok (.invokevirtual 165, 3) := by decide +kernel
theorem dX2_countFitting_19 : decode cX2_countFitting 19 = .ok (.ifCond .eq 6, 3) := by decide +kernel
theorem dX2_countFitting_22 : decode cX2_countFitting 22 = .ok (.iinc 2 1, 3) := by decide +kernel
theorem dX2_countFitting_25 : decode cX2_countFitting 25 = .ok (.iinc 3 1, 3) := by decide +kernel
theorem dX2_countFitting_28 : decode cX2_countFitting 28 = .ok (.goto (-24), 3) := by decide +kernel
theorem dX2_countFitting_31 : decode cX2_countFitting 31 = .ok (.iload_n 2, 1) := by decide +kernel
theorem dX2_countFitting_32 : decode cX2_countFitting 32 = .ok (.ireturn, 1) := by decide +kernel
theorem dX2_entitlementByCover_0 : decode cX2_entitlementByCover 0 = .ok (.aload_n 0, 1) := by decide +kernel
theorem dX2_entitlementByCover_1 : decode cX2_entitlementByCover 1 = .ok (.iload_n 1, 1) := by decide +kernel
theorem dX2_entitlementByCover_2 : decode cX2_entitlementByCover 2 = .ok (.invokevirtual 236, 3) := by decide +kernel
theorem dX2_entitlementByCover_5 : decode cX2_entitlementByCover 5 = .ok (.ifCond .ne 13, 3) := by decide +kernel
theorem dX2_entitlementByCover_8 : decode cX2_entitlementByCover 8 = .ok (.new 239, 3) := by decide +kernel
theorem dX2_entitlementByCover_11 : decode cX2_entitlementByCover 11 = .ok (.dup, 1) := by decide +kernel
theorem dX2_entitlementByCover_12 : decode cX2_entitlementByCover 12 = .ok (.ldc 241, 2) := by decide +kernel
theorem dX2_entitlementByCover_14 : decode cX2_entitlementByCover 14 = .ok (.invokespecial 243, 3) := by decide +kernel
theorem dX2_entitlementByCover_17 : decode cX2_entitlementByCover 17 = .ok (.athrow, 1) := by decide +kernel
theorem dX2_entitlementByCover_18 : decode cX2_entitlementByCover 18 = .ok (.aload_n 0, 1) := by decide +kernel
theorem dX2_entitlementByCover_19 : decode cX2_entitlementByCover 19 = .ok (.invokevirtual 184, 3) := by decide +kernel
theorem dX2_entitlementByCover_22 : decode cX2_entitlementByCover 22 = .ok (.pop, 1) := by decide +kernel
theorem dX2_entitlementByCover_23 : decode cX2_entitlementByCover 23 = .ok (.aload_n 0, 1) := by decide +kernel
theorem dX2_entitlementByCover_24 : decode cX2_entitlementByCover 24 = .ok (.getfield 27, 3) := by decide +kernel
theorem dX2_entitlementByCover_27 : decode cX2_entitlementByCover 27 = .ok (.iload_n 1, 1) := by decide +kernel
theorem dX2_entitlementByCover_28 : decode cX2_entitlementByCover 28 = .ok (.iaload, 1) := by decide +kernel
theorem dX2_entitlementByCover_29 : decode cX2_entitlementByCover 29 = .ok (.ireturn, 1) := by decide +kernel
theorem dX2_checkAllCanBeCovered_0 : decode cX2_checkAllCanBeCovered 0 = .ok (.iconst 0, 1) := by decide +kernel
theorem dX2_checkAllCanBeCovered_1 : decode cX2_checkAllCanBeCovered 1 = .ok (.istore_n 1, 1) := by decide +kernel
theorem dX2_checkAllCanBeCovered_2 : decode cX2_checkAllCanBeCovered 2 = .ok (.iload_n 1, 1) := by decide +kernel
theorem dX2_checkAllCanBeCovered_3 : decode cX2_checkAllCanBeCovered 3 = .ok (.bipush 12, 2) := by decide +kernel
theorem dX2_checkAllCanBeCovered_5 : decode cX2_checkAllCanBeCovered 5 = .ok (.if_icmp .ge 44, 3) := by decide +kernel
theorem dX2_checkAllCanBeCovered_8 : decode cX2_checkAllCanBeCovered 8 = .ok (.aload_n 0, 1) := by decide +kernel
theorem dX2_checkAllCanBeCovered_9 : decode cX2_checkAllCanBeCovered 9 = .ok (.getfield 11, 3) := by decide +kernel
theorem dX2_checkAllCanBeCovered_12 : decode cX2_checkAllCanBeCovered 12 = .ok (.iload_n 1, 1) := by decide +kernel
theorem dX2_checkAllCanBeCovered_13 : decode cX2_checkAllCanBeCovered 13 = .ok (.aaload, 1) := by decide +kernel
theorem dX2_checkAllCanBeCovered_14 : decode cX2_checkAllCanBeCovered 14 = .ok (.getfield 75, 3) := by decide +kernel
theorem dX2_checkAllCanBeCovered_17 : decode cX2_checkAllCanBeCovered 17 = .ok (.ifCond .eq 26, 3) := by decide +kernel
theorem dX2_checkAllCanBeCovered_20 : decode cX2_checkAllCanBeCovered 20 = .ok (.aload_n 0, 1) := by decide +kernel
theorem dX2_checkAllCanBeCovered_21 : decode cX2_checkAllCanBeCovered 21 = .ok (.aload_n 0, 1) := by decide +kernel
theorem dX2_checkAllCanBeCovered_22 : decode cX2_checkAllCanBeCovered 22 = .ok (.getfield 11, 3) := by decide +kernel
theorem dX2_checkAllCanBeCovered_25 : decode cX2_checkAllCanBeCovered 25 = .ok (.iload_n 1, 1) := by decide +kernel
theorem dX2_checkAllCanBeCovered_26 : decode cX2_checkAllCanBeCovered 26 = .ok (.aaload, 1) := by decide +kernel
theorem dX2_checkAllCanBeCovered_27 : decode cX2_checkAllCanBeCovered 27 = .ok (.invokevirtual 161, 3) := by decide +kernel
theorem dX2_checkAllCanBeCovered_30 : decode cX2_checkAllCanBeCovered 30 = .ok (.ifCond .ne 13, 3) := by decide +kernel
theorem dX2_checkAllCanBeCovered_33 : decode cX2_checkAllCanBeCovered 33 = .ok (.new 169, 3) := by decide +kernel
theorem dX2_checkAllCanBeCovered_36 : decode cX2_checkAllCanBeCovered 36 = .ok (.dup, 1) := by decide +kernel
theorem dX2_checkAllCanBeCovered_37 : decode cX2_checkAllCanBeCovered 37 = .ok (.ldc 246, 2) := by decide +kernel
theorem dX2_checkAllCanBeCovered_39 : decode cX2_checkAllCanBeCovered 39 = .ok (.invokespecial 173, 3) := by decide +kernel
theorem dX2_checkAllCanBeCovered_42 : decode cX2_checkAllCanBeCovered 42 = .ok (.athrow, 1) := by decide +kernel
theorem dX2_checkAllCanBeCovered_43 : decode cX2_checkAllCanBeCovered 43 = .ok (.iinc 1 1, 3) := by decide +kernel
theorem dX2_checkAllCanBeCovered_46 : decode cX2_checkAllCanBeCovered 46 = .ok (.goto (-44), 3) := by decide +kernel
theorem dX2_checkAllCanBeCovered_49 : decode cX2_checkAllCanBeCovered 49 = .ok (.return_, 1) := by decide +kernel
theorem dX2_findCover_0 : decode cX2_findCover 0 = .ok (.aload_n 0, 1) := by decide +kernel
theorem dX2_findCover_1 : decode cX2_findCover 1 = .ok (.iconst (-1), 1) := by decide +kernel
theorem dX2_findCover_2 : decode cX2_findCover 2 = .ok (.invokevirtual 189, 3) := by decide +kernel
theorem dX2_findCover_5 : decode cX2_findCover 5 = .ok (.aload_n 0, 1) := by decide +kernel
theorem dX2_findCover_6 : decode cX2_findCover 6 = .ok (.getfield 30, 3) := by decide +kernel
theorem dX2_findCover_9 : decode cX2_findCover 9 = .ok (.bipush 12, 2) := by decide +kernel
theorem dX2_findCover_11 : decode cX2_findCover 11 = .ok (.iconst 0, 1) := by decide +kernel
theorem dX2_findCover_12 : decode cX2_findCover 12 = .ok (.iastore, 1) := by decide +kernel
theorem dX2_findCover_13 : decode cX2_findCover 13 = .ok (.bipush 11, 2) := by decide +kernel
theorem dX2_findCover_15 : decode cX2_findCover 15 = .ok (.istore_n 1, 1) := by decide +kernel
theorem dX2_findCover_16 : decode cX2_findCover 16 = .ok (.iload_n 1, 1) := by decide +kernel
theorem dX2_findCover_17 : decode cX2_findCover 17 = .ok (.ifCond .lt 42, 3) := by decide +kernel
theorem dX2_findCover_20 : decode cX2_findCover 20 = .ok (.aload_n 0, 1) := by decide +kernel
theorem dX2_findCover_21 : decode cX2_findCover 21 = .ok (.getfield 30, 3) := by decide +kernel
theorem dX2_findCover_24 : decode cX2_findCover 24 = .ok (.iload_n 1, 1) := by decide +kernel
theorem dX2_findCover_25 : decode cX2_findCover 25 = .ok (.aload_n 0, 1) := by decide +kernel
theorem dX2_findCover_26 : decode cX2_findCover 26 = .ok (.getfield 30, 3) := by decide +kernel
theorem dX2_findCover_29 : decode cX2_findCover 29 = .ok (.iload_n 1, 1) := by decide +kernel
theorem dX2_findCover_30 : decode cX2_findCover 30 = .ok (.iconst 1, 1) := by decide +kernel
theorem dX2_findCover_31 : decode cX2_findCover 31 = .ok (.iadd, 1) := by decide +kernel
theorem dX2_findCover_32 : decode cX2_findCover 32 = .ok (.iaload, 1) := by decide +kernel
theorem dX2_findCover_33 : decode cX2_findCover 33 = .ok (.aload_n 0, 1) := by decide +kernel
theorem dX2_findCover_34 : decode cX2_findCover 34 = .ok (.aload_n 0, 1) := by decide +kernel
theorem dX2_findCover_35 : decode cX2_findCover 35 = .ok (.getfield 11, 3) := by decide +kernel
theorem dX2_findCover_38 : decode cX2_findCover 38 = .ok (.iload_n 1, 1) := by decide +kernel
theorem dX2_findCover_39 : decode cX2_findCover 39 = .ok (.aaload, 1) := by decide +kernel
theorem dX2_findCover_40 : decode cX2_findCover 40 = .ok (.invokevirtual 161, 3) := by decide +kernel
theorem dX2_findCover_43 : decode cX2_findCover 43 = .ok (.ifCond .le 7, 3) := by decide +kernel
theorem dX2_findCover_46 : decode cX2_findCover 46 = .ok (.iconst 1, 1) := by decide +kernel
theorem dX2_findCover_47 : decode cX2_findCover 47 = .ok (.goto 4, 3) := by decide +kernel
theorem dX2_findCover_50 : decode cX2_findCover 50 = .ok (.iconst 0, 1) := by decide +kernel
theorem dX2_findCover_51 : decode cX2_findCover 51 = .ok (.iadd, 1) := by decide +kernel
theorem dX2_findCover_52 : decode cX2_findCover 52 = .ok (.iastore, 1) := by decide +kernel
theorem dX2_findCover_53 : decode cX2_findCover 53 = .ok (.iinc 1 (-1), 3) := by decide +kernel
theorem dX2_findCover_56 : decode cX2_findCover 56 = .ok (.goto (-40), 3) := by decide +kernel
theorem dX2_findCover_59 : decode cX2_findCover 59 = .ok (.aload_n 0, 1) := by decide +kernel
theorem dX2_findCover_60 : decode cX2_findCover 60 = .ok (.iconst 0, 1) := by decide +kernel
theorem dX2_findCover_61 : decode cX2_findCover 61 = .ok (.iconst 0, 1) := by decide +kernel
theorem dX2_findCover_62 : decode cX2_findCover 62 = .ok (.invokestatic 248, 3) := by decide +kernel
theorem dX2_findCover_65 : decode cX2_findCover 65 = .ok (.aload_n 0, 1) := by decide +kernel
theorem dX2_findCover_66 : decode cX2_findCover 66 = .ok (.getfield 197, 3) := by decide +kernel
theorem dX2_findCover_69 : decode cX2_findCover 69 = .ok (.ireturn, 1) := by decide +kernel
theorem dX2_findPurchase_0 : decode cX2_findPurchase 0 = .ok (.aload_n 0, 1) := by decide +kernel
theorem dX2_findPurchase_1 : decode cX2_findPurchase 1 = .ok (.ldc 223, 2) := by decide +kernel
theorem dX2_findPurchase_3 : decode cX2_findPurchase 3 = .ok (.invokevirtual 189, 3) := by decide +kernel
theorem dX2_findPurchase_6 : decode cX2_findPurchase 6 = .ok (.aload_n 0, 1) := by decide +kernel
theorem dX2_findPurchase_7 : decode cX2_findPurchase 7 = .ok (.iconst 0, 1) := by decide +kernel
theorem dX2_findPurchase_8 : decode cX2_findPurchase 8 = .ok (.iconst 0, 1) := by decide +kernel
theorem dX2_findPurchase_9 : decode cX2_findPurchase 9 = .ok (.invokestatic 252, 3) := by decide +kernel
theorem dX2_findPurchase_12 : decode cX2_findPurchase 12 = .ok (.aload_n 0, 1) := by decide +kernel
theorem dX2_findPurchase_13 : decode cX2_findPurchase 13 = .ok (.getfield 197, 3) := by decide +kernel
theorem dX2_findPurchase_16 : decode cX2_findPurchase 16 = .ok (.ireturn, 1) := by decide +kernel
theorem dX2_searchCover_0 : decode cX2_searchCover 0 = .ok (.iload_n 1, 1) := by decide +kernel
theorem dX2_searchCover_1 : decode cX2_searchCover 1 = .ok (.ifCond .lt 24, 3) := by decide +kernel
theorem dX2_searchCover_4 : decode cX2_searchCover 4 = .ok (.iload_n 1, 1) := by decide +kernel
theorem dX2_searchCover_5 : decode cX2_searchCover 5 = .ok (.bipush 12, 2) := by decide +kernel
theorem dX2_searchCover_7 : decode cX2_searchCover 7 = .ok (.if_icmp .gt 18, 3) := by decide +kernel
theorem dX2_searchCover_10 : decode cX2_searchCover 10 = .ok (.iload_n 2, 1) := by decide +kernel
theorem dX2_searchCover_11 : decode cX2_searchCover 11 = .ok (.aload_n 0, 1) := by decide +kernel
theorem dX2_searchCover_12 : decode cX2_searchCover 12 = .ok (.getfield 30, 3) := by decide +kernel
theorem dX2_searchCover_15 : decode cX2_searchCover 15 = .ok (.iload_n 1, 1) := by decide +kernel
theorem dX2_searchCover_16 : decode cX2_searchCover 16 = .ok (.iaload, 1) := by decide +kernel
theorem dX2_searchCover_17 : decode cX2_searchCover 17 = .ok (.iadd, 1) := by decide +kernel
theorem dX2_searchCover_18 : decode cX2_searchCover 18 = .ok (.aload_n 0, 1) := by decide +kernel
theorem dX2_searchCover_19 : decode cX2_searchCover 19 = .ok (.getfield 197, 3) := by decide +kernel
theorem dX2_searchCover_22 : decode cX2_searchCover 22 = .ok (.if_icmp .gt 4, 3) := by decide +kernel
theorem dX2_searchCover_25 : decode cX2_searchCover 25 = .ok (.return_, 1) := by decide +kernel
theorem dX2_searchCover_26 : decode cX2_searchCover 26 = .ok (.iload_n 1, 1) := by decide +kernel
theorem dX2_searchCover_27 : decode cX2_searchCover 27 = .ok (.bipush 12, 2) := by decide +kernel
theorem dX2_searchCover_29 : decode cX2_searchCover 29 = .ok (.if_icmp .ne 9, 3) := by decide +kernel
theorem dX2_searchCover_32 : decode cX2_searchCover 32 = .ok (.aload_n 0, 1) := by decide +kernel
theorem dX2_searchCover_33 : decode cX2_searchCover 33 = .ok (.iload_n 2, 1) := by decide +kernel
theorem dX2_searchCover_34 : decode cX2_searchCover 34 = .ok (.invokevirtual 255, 3) := by decide +kernel
theorem dX2_searchCover_37 : decode cX2_searchCover 37 = .ok (.return_, 1) := by decide +kernel
theorem dX2_searchCover_38 : decode cX2_searchCover 38 = .ok (.iconst 0, 1) := by decide +kernel
theorem dX2_searchCover_39 : decode cX2_searchCover 39 = .ok (.istore_n 3, 1) := by decide +kernel
theorem dX2_searchCover_40 : decode cX2_searchCover 40 = .ok (.iload_n 3, 1) := by decide +kernel
theorem dX2_searchCover_41 : decode cX2_searchCover 41 = .ok (.iconst 5, 1) := by decide +kernel
theorem dX2_searchCover_42 : decode cX2_searchCover 42 = .ok (.if_icmp .ge 61, 3) := by decide +kernel
theorem dX2_searchCover_45 : decode cX2_searchCover 45 = .ok (.aload_n 0, 1) := by decide +kernel
theorem dX2_searchCover_46 : decode cX2_searchCover 46 = .ok (.getfield 18, 3) := by decide +kernel
theorem dX2_searchCover_49 : decode cX2_searchCover 49 = .ok (.iload_n 3, 1) := by decide +kernel
theorem dX2_searchCover_50 : decode cX2_searchCover 50 = .ok (.aaload, 1) := by decide +kernel
theorem dX2_searchCover_51 : decode cX2_searchCover 51 = .ok (.aload_n 0, 1) := by decide +kernel
theorem dX2_searchCover_52 : decode cX2_searchCover 52 = .ok (.getfield 11, 3) := by decide +kernel
theorem dX2_searchCover_55 : decode cX2_searchCover 55 = .ok (.iload_n 1, 1) := by decide +kernel
theorem dX2_searchCover_56 : decode cX2_searchCover 56 = .ok (.aaload, 1) := by decide +kernel
theorem dX2_searchCover_57 : decode cX2_searchCover 57 = .ok (.invokevirtual 165, 3) := by decide +kernel
theorem dX2_searchCover_60 : decode cX2_searchCover 60 = .ok (.ifCond .eq 37, 3) := by decide +kernel
theorem dX2_searchCover_63 : decode cX2_searchCover 63 = .ok (.aload_n 0, 1) := by decide +kernel
theorem dX2_searchCover_64 : decode cX2_searchCover 64 = .ok (.iload_n 1, 1) := by decide +kernel
theorem dX2_searchCover_65 : decode cX2_searchCover 65 = .ok (.iload_n 3, 1) := by decide +kernel
theorem dX2_searchCover_66 : decode cX2_searchCover 66 = .ok (.invokevirtual 258, 3) := by decide +kernel
theorem dX2_searchCover_69 : decode cX2_searchCover 69 = .ok (.aload_n 0, 1) := by decide +kernel
theorem dX2_searchCover_70 : decode cX2_searchCover 70 = .ok (.getfield 18, 3) := by decide +kernel
theorem dX2_searchCover_73 : decode cX2_searchCover 73 = .ok (.iload_n 3, 1) := by decide +kernel
theorem dX2_searchCover_74 : decode cX2_searchCover 74 = .ok (.aaload, 1) := by decide +kernel
theorem dX2_searchCover_75 : decode cX2_searchCover 75 = .ok (.invokevirtual 227, 3) := by decide +kernel
theorem dX2_searchCover_78 : decode cX2_searchCover 78 = .ok (.ifCond .ne 13, 3) := by decide +kernel
theorem dX2_searchCover_81 : decode cX2_searchCover 81 = .ok (.aload_n 0, 1) := by decide +kernel
theorem dX2_searchCover_82 : decode cX2_searchCover 82 = .ok (.iload_n 1, 1) := by decide +kernel
theorem dX2_searchCover_83 : decode cX2_searchCover 83 = .ok (.iconst 1, 1) := by decide +kernel
theorem dX2_searchCover_84 : decode cX2_searchCover 84 = .ok (.iadd, 1) := by decide +kernel
theorem dX2_searchCover_85 : decode cX2_searchCover 85 = .ok (.iload_n 2, 1) := by decide +kernel
theorem dX2_searchCover_86 : decode cX2_searchCover 86 = .ok (.iconst 1, 1) := by decide +kernel
theorem dX2_searchCover_87 : decode cX2_searchCover 87 = .ok (.iadd, 1) := by decide +kernel
theorem dX2_searchCover_88 : decode cX2_searchCover 88 = .ok (.invokestatic 248, 3) := by decide +kernel
theorem dX2_searchCover_91 : decode cX2_searchCover 91 = .ok (.aload_n 0, 1) := by decide +kernel
theorem dX2_searchCover_92 : decode cX2_searchCover 92 = .ok (.iload_n 1, 1) := by decide +kernel
theorem dX2_searchCover_93 : decode cX2_searchCover 93 = .ok (.iload_n 3, 1) := by decide +kernel
theorem dX2_searchCover_94 : decode cX2_searchCover 94 = .ok (.invokevirtual 262, 3) := by decide +kernel
theorem dX2_searchCover_97 : decode cX2_searchCover 97 = .ok (.iinc 3 1, 3) := by decide +kernel
theorem dX2_searchCover_100 : decode cX2_searchCover 100 = .ok (.goto (-60), 3) := by decide +kernel
theorem dX2_searchCover_103 : decode cX2_searchCover 103 = .ok (.aload_n 0, 1) := by decide +kernel
theorem dX2_searchCover_104 : decode cX2_searchCover 104 = .ok (.iload_n 1, 1) := by decide +kernel
theorem dX2_searchCover_105 : decode cX2_searchCover 105 = .ok (.iconst 1, 1) := by decide +kernel
theorem dX2_searchCover_106 : decode cX2_searchCover 106 = .ok (.iadd, 1) := by decide +kernel
theorem dX2_searchCover_107 : decode cX2_searchCover 107 = .ok (.iload_n 2, 1) := by decide +kernel
theorem dX2_searchCover_108 : decode cX2_searchCover 108 = .ok (.invokestatic 248, 3) := by decide +kernel
theorem dX2_searchCover_111 : decode cX2_searchCover 111 = .ok (.return_, 1) := by decide +kernel
theorem dX2_searchPurchase_0 : decode cX2_searchPurchase 0 = .ok (.iload_n 1, 1) := by decide +kernel
theorem dX2_searchPurchase_1 : decode cX2_searchPurchase 1 = .ok (.ifCond .lt 17, 3) := by decide +kernel
theorem dX2_searchPurchase_4 : decode cX2_searchPurchase 4 = .ok (.iload_n 1, 1) := by decide +kernel
theorem dX2_searchPurchase_5 : decode cX2_searchPurchase 5 = .ok (.bipush 12, 2) := by decide +kernel
theorem dX2_searchPurchase_7 : decode cX2_searchPurchase 7 = .ok (.if_icmp .gt 11, 3) := by decide +kernel
theorem dX2_searchPurchase_10 : decode cX2_searchPurchase 10 = .ok (.iload_n 2, 1) := by decide +kernel
theorem dX2_searchPurchase_11 : decode cX2_searchPurchase 11 = .ok (.aload_n 0, 1) := by decide +kernel
theorem dX2_searchPurchase_12 : decode cX2_searchPurchase 12 = .ok (.getfield 197, 3) := by decide +kernel
theorem dX2_searchPurchase_15 : decode cX2_searchPurchase 15 = .ok (.if_icmp .lt 4, 3) := by decide +kernel
theorem dX2_searchPurchase_18 : decode cX2_searchPurchase 18 = .ok (.return_, 1) := by decide +kernel
theorem dX2_searchPurchase_19 : decode cX2_searchPurchase 19 = .ok (.iload_n 1, 1) := by decide +kernel
theorem dX2_searchPurchase_20 : decode cX2_searchPurchase 20 = .ok (.bipush 12, 2) := by decide +kernel
theorem dX2_searchPurchase_22 : decode cX2_searchPurchase 22 = .ok (.if_icmp .ne 9, 3) := by decide +kernel
theorem dX2_searchPurchase_25 : decode cX2_searchPurchase 25 = .ok (.aload_n 0, 1) := by decide +kernel
theorem dX2_searchPurchase_26 : decode cX2_searchPurchase 26 = .ok (.iload_n 2, 1) := by decide +kernel
theorem dX2_searchPurchase_27 : decode cX2_searchPurchase 27 = .ok (.invokevirtual 255, 3) := by decide +kernel
theorem dX2_searchPurchase_30 : decode cX2_searchPurchase 30 = .ok (.return_, 1) := by decide +kernel
theorem dX2_searchPurchase_31 : decode cX2_searchPurchase 31 = .ok (.aload_n 0, 1) := by decide +kernel
theorem dX2_searchPurchase_32 : decode cX2_searchPurchase 32 = .ok (.getfield 11, 3) := by decide +kernel
theorem dX2_searchPurchase_35 : decode cX2_searchPurchase 35 = .ok (.iload_n 1, 1) := by decide +kernel
theorem dX2_searchPurchase_36 : decode cX2_searchPurchase 36 = .ok (.aaload, 1) := by decide +kernel
theorem dX2_searchPurchase_37 : decode cX2_searchPurchase 37 = .ok (.getfield 75, 3) := by decide +kernel
theorem dX2_searchPurchase_40 : decode cX2_searchPurchase 40 = .ok (.ifCond .ne 12, 3) := by decide +kernel
theorem dX2_searchPurchase_43 : decode cX2_searchPurchase 43 = .ok (.aload_n 0, 1) := by decide +kernel
theorem dX2_searchPurchase_44 : decode cX2_searchPurchase 44 = .ok (.iload_n 1, 1) := by decide +kernel
theorem dX2_searchPurchase_45 : decode cX2_searchPurchase 45 = .ok (.iconst 1, 1) := by decide +kernel
theorem dX2_searchPurchase_46 : decode cX2_searchPurchase 46 = .ok (.iadd, 1) := by decide +kernel
theorem dX2_searchPurchase_47 : decode cX2_searchPurchase 47 = .ok (.iload_n 2, 1) := by decide +kernel
theorem dX2_searchPurchase_48 : decode cX2_searchPurchase 48 = .ok (.invokestatic 252, 3) := by decide +kernel
theorem dX2_searchPurchase_51 : decode cX2_searchPurchase 51 = .ok (.return_, 1) := by decide +kernel
theorem dX2_searchPurchase_52 : decode cX2_searchPurchase 52 = .ok (.iconst 0, 1) := by decide +kernel
theorem dX2_searchPurchase_53 : decode cX2_searchPurchase 53 = .ok (.istore_n 3, 1) := by decide +kernel
theorem dX2_searchPurchase_54 : decode cX2_searchPurchase 54 = .ok (.iload_n 3, 1) := by decide +kernel
theorem dX2_searchPurchase_55 : decode cX2_searchPurchase 55 = .ok (.iconst 5, 1) := by decide +kernel
theorem dX2_searchPurchase_56 : decode cX2_searchPurchase 56 = .ok (.if_icmp .ge 67, 3) := by decide +kernel
theorem dX2_searchPurchase_59 : decode cX2_searchPurchase 59 = .ok (.aload_n 0, 1) := by decide +kernel
theorem dX2_searchPurchase_60 : decode cX2_searchPurchase 60 = .ok (.getfield 18, 3) := by decide +kernel
theorem dX2_searchPurchase_63 : decode cX2_searchPurchase 63 = .ok (.iload_n 3, 1) := by decide +kernel
theorem dX2_searchPurchase_64 : decode cX2_searchPurchase 64 = .ok (.aaload, 1) := by decide +kernel
theorem dX2_searchPurchase_65 : decode cX2_searchPurchase 65 = .ok (.astore 4, 2) := by decide +kernel
theorem dX2_searchPurchase_67 : decode cX2_searchPurchase 67 = .ok (.aload 4, 2) := by decide +kernel
theorem dX2_searchPurchase_69 : decode cX2_searchPurchase 69 = .ok (.aload_n 0, 1) := by decide +kernel
theorem dX2_searchPurchase_70 : decode cX2_searchPurchase 70 = .ok (.getfield 11, 3) := by decide +kernel
theorem dX2_searchPurchase_73 : decode cX2_searchPurchase 73 = .ok (.iload_n 1, 1) := by decide +kernel
theorem dX2_searchPurchase_74 : decode cX2_searchPurchase 74 = .ok (.aaload, 1) := by decide +kernel
theorem dX2_searchPurchase_75 : decode cX2_searchPurchase 75 = .ok (.invokevirtual 165, 3) := by decide +kernel
theorem dX2_searchPurchase_78 : decode cX2_searchPurchase 78 = .ok (.ifCond .eq 39, 3) := by decide +kernel
theorem dX2_searchPurchase_81 : decode cX2_searchPurchase 81 = .ok (.iload_n 2, 1) := by decide +kernel
theorem dX2_searchPurchase_82 : decode cX2_searchPurchase 82 = .ok (.aload 4, 2) := by decide +kernel
theorem dX2_searchPurchase_84 : decode cX2_searchPurchase 84 = .ok (.invokevirtual 265, 3) := by decide +kernel
theorem dX2_searchPurchase_87 : decode cX2_searchPurchase 87 = .ok (.isub, 1) := by decide +kernel
theorem dX2_searchPurchase_88 : decode cX2_searchPurchase 88 = .ok (.istore 5, 2) := by decide +kernel
theorem dX2_searchPurchase_90 : decode cX2_searchPurchase 90 = .ok (.aload_n 0, 1) := by decide +kernel
theorem dX2_searchPurchase_91 : decode cX2_searchPurchase 91 = .ok (.iload_n 1, 1) := by decide +kernel
theorem dX2_searchPurchase_92 : decode cX2_searchPurchase 92 = .ok (.iload_n 3, 1) := by decide +kernel
theorem dX2_searchPurchase_93 : decode cX2_searchPurchase 93 = .ok (.invokevirtual 258, 3) := by decide +kernel
theorem dX2_searchPurchase_96 : decode cX2_searchPurchase 96 = .ok (.aload_n 0, 1) := by decide +kernel
theorem dX2_searchPurchase_97 : decode cX2_searchPurchase 97 = .ok (.iload_n 1, 1) := by decide +kernel
theorem dX2_searchPurchase_98 : decode cX2_searchPurchase 98 = .ok (.iconst 1, 1) := by decide +kernel
theorem dX2_searchPurchase_99 : decode cX2_searchPurchase 99 = .ok (.iadd, 1) := by decide +kernel
theorem dX2_searchPurchase_100 : decode cX2_searchPurchase 100 = .ok (.iload 5, 2) := by decide +kernel
theorem dX2_searchPurchase_102 : decode cX2_searchPurchase 102 = .ok (.aload 4, 2) := by decide +kernel
theorem dX2_searchPurchase_104 : decode cX2_searchPurchase 104 = .ok (.invokevirtual 265, 3) := by decide +kernel
theorem dX2_searchPurchase_107 : decode cX2_searchPurchase 107 = .ok (.iadd, 1) := by decide +kernel
theorem dX2_searchPurchase_108 : decode cX2_searchPurchase 108 = .ok (.invokestatic 252, 3) := by decide +kernel
theorem dX2_searchPurchase_111 : decode cX2_searchPurchase 111 = .ok (.aload_n 0, 1) := by decide +kernel
theorem dX2_searchPurchase_112 : decode cX2_searchPurchase 112 = .ok (.iload_n 1, 1) := by decide +kernel
theorem dX2_searchPurchase_113 : decode cX2_searchPurchase 113 = .ok (.iload_n 3, 1) := by decide +kernel
theorem dX2_searchPurchase_114 : decode cX2_searchPurchase 114 = .ok (.invokevirtual 262, 3) := by decide +kernel
theorem dX2_searchPurchase_117 : decode cX2_searchPurchase 117 = .ok (.iinc 3 1, 3) := by decide +kernel
theorem dX2_searchPurchase_120 : decode cX2_searchPurchase 120 = .ok (.goto (-66), 3) := by decide +kernel
theorem dX2_searchPurchase_123 : decode cX2_searchPurchase 123 = .ok (.return_, 1) := by decide +kernel
theorem dX2_tryCovers_0 : decode cX2_tryCovers 0 = .ok (.iload_n 1, 1) := by decide +kernel
theorem dX2_tryCovers_1 : decode cX2_tryCovers 1 = .ok (.ifCond .lt 9, 3) := by decide +kernel
theorem dX2_tryCovers_4 : decode cX2_tryCovers 4 = .ok (.iload_n 1, 1) := by decide +kernel
theorem dX2_tryCovers_5 : decode cX2_tryCovers 5 = .ok (.bipush 12, 2) := by decide +kernel
theorem dX2_tryCovers_7 : decode cX2_tryCovers 7 = .ok (.if_icmp .lt 29, 3) := by decide +kernel
theorem dX2_tryCovers_10 : decode cX2_tryCovers 10 = .ok (.aload_n 0, 1) := by decide +kernel
theorem dX2_tryCovers_11 : decode cX2_tryCovers 11 = .ok (.invokevirtual 268, 3) := by decide +kernel
theorem dX2_tryCovers_14 : decode cX2_tryCovers 14 = .ok (.istore_n 2, 1) := by decide +kernel
theorem dX2_tryCovers_15 : decode cX2_tryCovers 15 = .ok (.aload_n 0, 1) := by decide +kernel
theorem dX2_tryCovers_16 : decode cX2_tryCovers 16 = .ok (.invokevirtual 271, 3) := by decide +kernel
theorem dX2_tryCovers_19 : decode cX2_tryCovers 19 = .ok (.ifCond .eq 16, 3) := by decide +kernel
theorem dX2_tryCovers_22 : decode cX2_tryCovers 22 = .ok (.iload_n 2, 1) := by decide +kernel
theorem dX2_tryCovers_23 : decode cX2_tryCovers 23 = .ok (.aload_n 0, 1) := by decide +kernel
theorem dX2_tryCovers_24 : decode cX2_tryCovers 24 = .ok (.getfield 197, 3) := by decide +kernel
theorem dX2_tryCovers_27 : decode cX2_tryCovers 27 = .ok (.if_icmp .le 8, 3) := by decide +kernel
theorem dX2_tryCovers_30 : decode cX2_tryCovers 30 = .ok (.aload_n 0, 1) := by decide +kernel
theorem dX2_tryCovers_31 : decode cX2_tryCovers 31 = .ok (.iload_n 2, 1) := by decide +kernel
theorem dX2_tryCovers_32 : decode cX2_tryCovers 32 = .ok (.invokevirtual 255, 3) := by decide +kernel
theorem dX2_tryCovers_35 : decode cX2_tryCovers 35 = .ok (.return_, 1) := by decide +kernel
theorem dX2_tryCovers_36 : decode cX2_tryCovers 36 = .ok (.iconst 0, 1) := by decide +kernel
theorem dX2_tryCovers_37 : decode cX2_tryCovers 37 = .ok (.istore_n 2, 1) := by decide +kernel
theorem dX2_tryCovers_38 : decode cX2_tryCovers 38 = .ok (.iload_n 2, 1) := by decide +kernel
theorem dX2_tryCovers_39 : decode cX2_tryCovers 39 = .ok (.iconst 5, 1) := by decide +kernel
theorem dX2_tryCovers_40 : decode cX2_tryCovers 40 = .ok (.if_icmp .ge 46, 3) := by decide +kernel
theorem dX2_tryCovers_43 : decode cX2_tryCovers 43 = .ok (.aload_n 0, 1) := by decide +kernel
theorem dX2_tryCovers_44 : decode cX2_tryCovers 44 = .ok (.getfield 18, 3) := by decide +kernel
theorem dX2_tryCovers_47 : decode cX2_tryCovers 47 = .ok (.iload_n 2, 1) := by decide +kernel
theorem dX2_tryCovers_48 : decode cX2_tryCovers 48 = .ok (.aaload, 1) := by decide +kernel
theorem dX2_tryCovers_49 : decode cX2_tryCovers 49 = .ok (.aload_n 0, 1) := by decide +kernel
theorem dX2_tryCovers_50 : decode cX2_tryCovers 50 = .ok (.getfield 11, 3) := by decide +kernel
theorem dX2_tryCovers_53 : decode cX2_tryCovers 53 = .ok (.iload_n 1, 1) := by decide +kernel
theorem dX2_tryCovers_54 : decode cX2_tryCovers 54 = .ok (.aaload, 1) := by decide +kernel
theorem dX2_tryCovers_55 : decode cX2_tryCovers 55 = .ok (.invokevirtual 165, 3) := by decide +kernel
theorem dX2_tryCovers_58 : decode cX2_tryCovers 58 = .ok (.ifCond .eq 22, 3) := by decide +kernel
theorem dX2_tryCovers_61 : decode cX2_tryCovers 61 = .ok (.aload_n 0, 1) := by decide +kernel
theorem dX2_tryCovers_62 : decode cX2_tryCovers 62 = .ok (.iload_n 1, 1) := by decide +kernel
theorem dX2_tryCovers_63 : decode cX2_tryCovers 63 = .ok (.iload_n 2, 1) := by decide +kernel
theorem dX2_tryCovers_64 : decode cX2_tryCovers 64 = .ok (.invokevirtual 258, 3) := by decide +kernel
theorem dX2_tryCovers_67 : decode cX2_tryCovers 67 = .ok (.aload_n 0, 1) := by decide +kernel
theorem dX2_tryCovers_68 : decode cX2_tryCovers 68 = .ok (.iload_n 1, 1) := by decide +kernel
theorem dX2_tryCovers_69 : decode cX2_tryCovers 69 = .ok (.iconst 1, 1) := by decide +kernel
theorem dX2_tryCovers_70 : decode cX2_tryCovers 70 = .ok (.iadd, 1) := by decide +kernel
theorem dX2_tryCovers_71 : decode cX2_tryCovers 71 = .ok (.invokestatic 193, 3) := by decide +kernel
theorem dX2_tryCovers_74 : decode cX2_tryCovers 74 = .ok (.aload_n 0, 1) := by decide +kernel
theorem dX2_tryCovers_75 : decode cX2_tryCovers 75 = .ok (.iload_n 1, 1) := by decide +kernel
theorem dX2_tryCovers_76 : decode cX2_tryCovers 76 = .ok (.iload_n 2, 1) := by decide +kernel
theorem dX2_tryCovers_77 : decode cX2_tryCovers 77 = .ok (.invokevirtual 262, 3) := by decide +kernel
theorem dX2_tryCovers_80 : decode cX2_tryCovers 80 = .ok (.iinc 2 1, 3) := by decide +kernel
theorem dX2_tryCovers_83 : decode cX2_tryCovers 83 = .ok (.goto (-45), 3) := by decide +kernel
theorem dX2_tryCovers_86 : decode cX2_tryCovers 86 = .ok (.aload_n 0, 1) := by decide +kernel
theorem dX2_tryCovers_87 : decode cX2_tryCovers 87 = .ok (.iload_n 1, 1) := by decide +kernel
theorem dX2_tryCovers_88 : decode cX2_tryCovers 88 = .ok (.iconst 1, 1) := by decide +kernel
theorem dX2_tryCovers_89 : decode cX2_tryCovers 89 = .ok (.iadd, 1) := by decide +kernel
theorem dX2_tryCovers_90 : decode cX2_tryCovers 90 = .ok (.invokestatic 193, 3) := by decide +kernel
theorem dX2_tryCovers_93 : decode cX2_tryCovers 93 = .ok (.return_, 1) := by decide +kernel
theorem dX2_tryPurchases_0 : decode cX2_tryPurchases 0 = .ok (.iload_n 1, 1) := by decide +kernel
theorem dX2_tryPurchases_1 : decode cX2_tryPurchases 1 = .ok (.ifCond .lt 9, 3) := by decide +kernel
theorem dX2_tryPurchases_4 : decode cX2_tryPurchases 4 = .ok (.iload_n 1, 1) := by decide +kernel
theorem dX2_tryPurchases_5 : decode cX2_tryPurchases 5 = .ok (.bipush 12, 2) := by decide +kernel
theorem dX2_tryPurchases_7 : decode cX2_tryPurchases 7 = .ok (.if_icmp .lt 22, 3) := by decide +kernel
theorem dX2_tryPurchases_10 : decode cX2_tryPurchases 10 = .ok (.aload_n 0, 1) := by decide +kernel
theorem dX2_tryPurchases_11 : decode cX2_tryPurchases 11 = .ok (.invokevirtual 275, 3) := by decide +kernel
theorem dX2_tryPurchases_14 : decode cX2_tryPurchases 14 = .ok (.istore_n 2, 1) := by decide +kernel
theorem dX2_tryPurchases_15 : decode cX2_tryPurchases 15 = .ok (.iload_n 2, 1) := by decide +kernel
theorem dX2_tryPurchases_16 : decode cX2_tryPurchases 16 = .ok (.aload_n 0, 1) := by decide +kernel
theorem dX2_tryPurchases_17 : decode cX2_tryPurchases 17 = .ok (.getfield 197, 3) := by decide +kernel
theorem dX2_tryPurchases_20 : decode cX2_tryPurchases 20 = .ok (.if_icmp .ge 8, 3) := by decide +kernel
theorem dX2_tryPurchases_23 : decode cX2_tryPurchases 23 = .ok (.aload_n 0, 1) := by decide +kernel
theorem dX2_tryPurchases_24 : decode cX2_tryPurchases 24 = .ok (.iload_n 2, 1) := by decide +kernel
theorem dX2_tryPurchases_25 : decode cX2_tryPurchases 25 = .ok (.invokevirtual 255, 3) := by decide +kernel
theorem dX2_tryPurchases_28 : decode cX2_tryPurchases 28 = .ok (.return_, 1) := by decide +kernel
theorem dX2_tryPurchases_29 : decode cX2_tryPurchases 29 = .ok (.aload_n 0, 1) := by decide +kernel
theorem dX2_tryPurchases_30 : decode cX2_tryPurchases 30 = .ok (.getfield 11, 3) := by decide +kernel
theorem dX2_tryPurchases_33 : decode cX2_tryPurchases 33 = .ok (.iload_n 1, 1) := by decide +kernel
theorem dX2_tryPurchases_34 : decode cX2_tryPurchases 34 = .ok (.aaload, 1) := by decide +kernel
theorem dX2_tryPurchases_35 : decode cX2_tryPurchases 35 = .ok (.getfield 75, 3) := by decide +kernel
theorem dX2_tryPurchases_38 : decode cX2_tryPurchases 38 = .ok (.ifCond .ne 11, 3) := by decide +kernel
theorem dX2_tryPurchases_41 : decode cX2_tryPurchases 41 = .ok (.aload_n 0, 1) := by decide +kernel
theorem dX2_tryPurchases_42 : decode cX2_tryPurchases 42 = .ok (.iload_n 1, 1) := by decide +kernel
theorem dX2_tryPurchases_43 : decode cX2_tryPurchases 43 = .ok (.iconst 1, 1) := by decide +kernel
theorem dX2_tryPurchases_44 : decode cX2_tryPurchases 44 = .ok (.iadd, 1) := by decide +kernel
theorem dX2_tryPurchases_45 : decode cX2_tryPurchases 45 = .ok (.invokestatic 224, 3) := by decide +kernel
theorem dX2_tryPurchases_48 : decode cX2_tryPurchases 48 = .ok (.return_, 1) := by decide +kernel
theorem dX2_tryPurchases_49 : decode cX2_tryPurchases 49 = .ok (.iconst 0, 1) := by decide +kernel
theorem dX2_tryPurchases_50 : decode cX2_tryPurchases 50 = .ok (.istore_n 2, 1) := by decide +kernel
theorem dX2_tryPurchases_51 : decode cX2_tryPurchases 51 = .ok (.iload_n 2, 1) := by decide +kernel
theorem dX2_tryPurchases_52 : decode cX2_tryPurchases 52 = .ok (.iconst 5, 1) := by decide +kernel
theorem dX2_tryPurchases_53 : decode cX2_tryPurchases 53 = .ok (.if_icmp .ge 46, 3) := by decide +kernel
theorem dX2_tryPurchases_56 : decode cX2_tryPurchases 56 = .ok (.aload_n 0, 1) := by decide +kernel
theorem dX2_tryPurchases_57 : decode cX2_tryPurchases 57 = .ok (.getfield 18, 3) := by decide +kernel
theorem dX2_tryPurchases_60 : decode cX2_tryPurchases 60 = .ok (.iload_n 2, 1) := by decide +kernel
theorem dX2_tryPurchases_61 : decode cX2_tryPurchases 61 = .ok (.aaload, 1) := by decide +kernel
theorem dX2_tryPurchases_62 : decode cX2_tryPurchases 62 = .ok (.aload_n 0, 1) := by decide +kernel
theorem dX2_tryPurchases_63 : decode cX2_tryPurchases 63 = .ok (.getfield 11, 3) := by decide +kernel
theorem dX2_tryPurchases_66 : decode cX2_tryPurchases 66 = .ok (.iload_n 1, 1) := by decide +kernel
theorem dX2_tryPurchases_67 : decode cX2_tryPurchases 67 = .ok (.aaload, 1) := by decide +kernel
theorem dX2_tryPurchases_68 : decode cX2_tryPurchases 68 = .ok (.invokevirtual 165, 3) := by decide +kernel
theorem dX2_tryPurchases_71 : decode cX2_tryPurchases 71 = .ok (.ifCond .eq 22, 3) := by decide +kernel
theorem dX2_tryPurchases_74 : decode cX2_tryPurchases 74 = .ok (.aload_n 0, 1) := by decide +kernel
theorem dX2_tryPurchases_75 : decode cX2_tryPurchases 75 = .ok (.iload_n 1, 1) := by decide +kernel
theorem dX2_tryPurchases_76 : decode cX2_tryPurchases 76 = .ok (.iload_n 2, 1) := by decide +kernel
theorem dX2_tryPurchases_77 : decode cX2_tryPurchases 77 = .ok (.invokevirtual 258, 3) := by decide +kernel
theorem dX2_tryPurchases_80 : decode cX2_tryPurchases 80 = .ok (.aload_n 0, 1) := by decide +kernel
theorem dX2_tryPurchases_81 : decode cX2_tryPurchases 81 = .ok (.iload_n 1, 1) := by decide +kernel
theorem dX2_tryPurchases_82 : decode cX2_tryPurchases 82 = .ok (.iconst 1, 1) := by decide +kernel
theorem dX2_tryPurchases_83 : decode cX2_tryPurchases 83 = .ok (.iadd, 1) := by decide +kernel
theorem dX2_tryPurchases_84 : decode cX2_tryPurchases 84 = .ok (.invokestatic 224, 3) := by decide +kernel
theorem dX2_tryPurchases_87 : decode cX2_tryPurchases 87 = .ok (.aload_n 0, 1) := by decide +kernel
theorem dX2_tryPurchases_88 : decode cX2_tryPurchases 88 = .ok (.iload_n 1, 1) := by decide +kernel
theorem dX2_tryPurchases_89 : decode cX2_tryPurchases 89 = .ok (.iload_n 2, 1) := by decide +kernel
theorem dX2_tryPurchases_90 : decode cX2_tryPurchases 90 = .ok (.invokevirtual 262, 3) := by decide +kernel
theorem dX2_tryPurchases_93 : decode cX2_tryPurchases 93 = .ok (.iinc 2 1, 3) := by decide +kernel
theorem dX2_tryPurchases_96 : decode cX2_tryPurchases 96 = .ok (.goto (-45), 3) := by decide +kernel
theorem dX2_tryPurchases_99 : decode cX2_tryPurchases 99 = .ok (.return_, 1) := by decide +kernel
theorem dX2_clearSearch_0 : decode cX2_clearSearch 0 = .ok (.iconst 0, 1) := by decide +kernel
theorem dX2_clearSearch_1 : decode cX2_clearSearch 1 = .ok (.istore_n 2, 1) := by decide +kernel
theorem dX2_clearSearch_2 : decode cX2_clearSearch 2 = .ok (.iload_n 2, 1) := by decide +kernel
theorem dX2_clearSearch_3 : decode cX2_clearSearch 3 = .ok (.bipush 12, 2) := by decide +kernel
theorem dX2_clearSearch_5 : decode cX2_clearSearch 5 = .ok (.if_icmp .ge 23, 3) := by decide +kernel
theorem dX2_clearSearch_8 : decode cX2_clearSearch 8 = .ok (.aload_n 0, 1) := by decide +kernel
theorem dX2_clearSearch_9 : decode cX2_clearSearch 9 = .ok (.getfield 23, 3) := by decide +kernel
theorem dX2_clearSearch_12 : decode cX2_clearSearch 12 = .ok (.iload_n 2, 1) := by decide +kernel
theorem dX2_clearSearch_13 : decode cX2_clearSearch 13 = .ok (.iconst (-1), 1) := by decide +kernel
theorem dX2_clearSearch_14 : decode cX2_clearSearch 14 = .ok (.iastore, 1) := by decide +kernel
theorem dX2_clearSearch_15 : decode cX2_clearSearch 15 = .ok (.aload_n 0, 1) := by decide +kernel
theorem dX2_clearSearch_16 : decode cX2_clearSearch 16 = .ok (.getfield 27, 3) := by decide +kernel
theorem dX2_clearSearch_19 : decode cX2_clearSearch 19 = .ok (.iload_n 2, 1) := by decide +kernel
theorem dX2_clearSearch_20 : decode cX2_clearSearch 20 = .ok (.iconst (-1), 1) := by decide +kernel
theorem dX2_clearSearch_21 : decode cX2_clearSearch 21 = .ok (.iastore, 1) := by decide +kernel
theorem dX2_clearSearch_22 : decode cX2_clearSearch 22 = .ok (.iinc 2 1, 3) := by decide +kernel
theorem dX2_clearSearch_25 : decode cX2_clearSearch 25 = .ok (.goto (-23), 3) := by decide +kernel
theorem dX2_clearSearch_28 : decode cX2_clearSearch 28 = .ok (.aload_n 0, 1) := by decide +kernel
theorem dX2_clearSearch_29 : decode cX2_clearSearch 29 = .ok (.invokevirtual 278, 3) := by decide +kernel
theorem dX2_clearSearch_32 : decode cX2_clearSearch 32 = .ok (.aload_n 0, 1) := by decide +kernel
theorem dX2_clearSearch_33 : decode cX2_clearSearch 33 = .ok (.iload_n 1, 1) := by decide +kernel
theorem dX2_clearSearch_34 : decode cX2_clearSearch 34 = .ok (.putfield 197, 3) := by decide +kernel
theorem dX2_clearSearch_37 : decode cX2_clearSearch 37 = .ok (.return_, 1) := by decide +kernel
theorem dX2_clearNeeds_0 : decode cX2_clearNeeds 0 = .ok (.iconst 0, 1) := by decide +kernel
theorem dX2_clearNeeds_1 : decode cX2_clearNeeds 1 = .ok (.istore_n 1, 1) := by decide +kernel
theorem dX2_clearNeeds_2 : decode cX2_clearNeeds 2 = .ok (.iload_n 1, 1) := by decide +kernel
theorem dX2_clearNeeds_3 : decode cX2_clearNeeds 3 = .ok (.iconst 5, 1) := by decide +kernel
theorem dX2_clearNeeds_4 : decode cX2_clearNeeds 4 = .ok (.if_icmp .ge 18, 3) := by decide +kernel
theorem dX2_clearNeeds_7 : decode cX2_clearNeeds 7 = .ok (.aload_n 0, 1) := by decide +kernel
theorem dX2_clearNeeds_8 : decode cX2_clearNeeds 8 = .ok (.getfield 18, 3) := by decide +kernel
theorem dX2_clearNeeds_11 : decode cX2_clearNeeds 11 = .ok (.iload_n 1, 1) := by decide +kernel
theorem dX2_clearNeeds_12 : decode cX2_clearNeeds 12 = .ok (.aaload, 1) := by decide +kernel
theorem dX2_clearNeeds_13 : decode cX2_clearNeeds 13 = .ok (.invokevirtual 174, 3) := by decide +kernel
theorem dX2_clearNeeds_16 : decode cX2_clearNeeds 16 = .ok (.iinc 1 1, 3) := by decide +kernel
theorem dX2_clearNeeds_19 : decode cX2_clearNeeds 19 = .ok (.goto (-17), 3) := by decide +kernel
theorem dX2_clearNeeds_22 : decode cX2_clearNeeds 22 = .ok (.return_, 1) := by decide +kernel
theorem dX2_give_0 : decode cX2_give 0 = .ok (.aload_n 0, 1) := by decide +kernel
theorem dX2_give_1 : decode cX2_give 1 = .ok (.getfield 23, 3) := by decide +kernel
theorem dX2_give_4 : decode cX2_give 4 = .ok (.iload_n 1, 1) := by decide +kernel
theorem dX2_give_5 : decode cX2_give 5 = .ok (.iload_n 2, 1) := by decide +kernel
theorem dX2_give_6 : decode cX2_give 6 = .ok (.iastore, 1) := by decide +kernel
theorem dX2_give_7 : decode cX2_give 7 = .ok (.aload_n 0, 1) := by decide +kernel
theorem dX2_give_8 : decode cX2_give 8 = .ok (.getfield 18, 3) := by decide +kernel
theorem dX2_give_11 : decode cX2_give 11 = .ok (.iload_n 2, 1) := by decide +kernel
theorem dX2_give_12 : decode cX2_give 12 = .ok (.aaload, 1) := by decide +kernel
theorem dX2_give_13 : decode cX2_give 13 = .ok (.aload_n 0, 1) := by decide +kernel
theorem dX2_give_14 : decode cX2_give 14 = .ok (.getfield 11, 3) := by decide +kernel
theorem dX2_give_17 : decode cX2_give 17 = .ok (.iload_n 1, 1) := by decide +kernel
theorem dX2_give_18 : decode cX2_give 18 = .ok (.aaload, 1) := by decide +kernel
theorem dX2_give_19 : decode cX2_give 19 = .ok (.invokevirtual 177, 3) := by decide +kernel
theorem dX2_give_22 : decode cX2_give 22 = .ok (.return_, 1) := by decide +kernel
theorem dX2_takeBack_0 : decode cX2_takeBack 0 = .ok (.aload_n 0, 1) := by decide +kernel
theorem dX2_takeBack_1 : decode cX2_takeBack 1 = .ok (.getfield 23, 3) := by decide +kernel
theorem dX2_takeBack_4 : decode cX2_takeBack 4 = .ok (.iload_n 1, 1) := by decide +kernel
theorem dX2_takeBack_5 : decode cX2_takeBack 5 = .ok (.iconst (-1), 1) := by decide +kernel
theorem dX2_takeBack_6 : decode cX2_takeBack 6 = .ok (.iastore, 1) := by decide +kernel
theorem dX2_takeBack_7 : decode cX2_takeBack 7 = .ok (.aload_n 0, 1) := by decide +kernel
theorem dX2_takeBack_8 : decode cX2_takeBack 8 = .ok (.getfield 18, 3) := by decide +kernel
theorem dX2_takeBack_11 : decode cX2_takeBack 11 = .ok (.iload_n 2, 1) := by decide +kernel
theorem dX2_takeBack_12 : decode cX2_takeBack 12 = .ok (.aaload, 1) := by decide +kernel
theorem dX2_takeBack_13 : decode cX2_takeBack 13 = .ok (.aload_n 0, 1) := by decide +kernel
theorem dX2_takeBack_14 : decode cX2_takeBack 14 = .ok (.getfield 11, 3) := by decide +kernel
theorem dX2_takeBack_17 : decode cX2_takeBack 17 = .ok (.iload_n 1, 1) := by decide +kernel
theorem dX2_takeBack_18 : decode cX2_takeBack 18 = .ok (.aaload, 1) := by decide +kernel
theorem dX2_takeBack_19 : decode cX2_takeBack 19 = .ok (.invokevirtual 281, 3) := by decide +kernel
theorem dX2_takeBack_22 : decode cX2_takeBack 22 = .ok (.return_, 1) := by decide +kernel
theorem dX2_keepAsBest_0 : decode cX2_keepAsBest 0 = .ok (.aload_n 0, 1) := by decide +kernel
theorem dX2_keepAsBest_1 : decode cX2_keepAsBest 1 = .ok (.iload_n 1, 1) := by decide +kernel
theorem dX2_keepAsBest_2 : decode cX2_keepAsBest 2 = .ok (.putfield 197, 3) := by decide +kernel
theorem dX2_keepAsBest_5 : decode cX2_keepAsBest 5 = .ok (.aload_n 0, 1) := by decide +kernel
theorem dX2_keepAsBest_6 : decode cX2_keepAsBest 6 = .ok (.getfield 23, 3) := by decide +kernel
theorem dX2_keepAsBest_9 : decode cX2_keepAsBest 9 = .ok (.iconst 0, 1) := by decide +kernel
theorem dX2_keepAsBest_10 : decode cX2_keepAsBest 10 = .ok (.aload_n 0, 1) := by decide +kernel
theorem dX2_keepAsBest_11 : decode cX2_keepAsBest 11 = .ok (.getfield 27, 3) := by decide +kernel
theorem dX2_keepAsBest_14 : decode cX2_keepAsBest 14 = .ok (.iconst 0, 1) := by decide +kernel
theorem dX2_keepAsBest_15 : decode cX2_keepAsBest 15 = .ok (.bipush 12, 2) := by decide +kernel
theorem dX2_keepAsBest_17 : decode cX2_keepAsBest 17 = .ok (.invokestatic 284, 3) := by decide +kernel
theorem dX2_keepAsBest_20 : decode cX2_keepAsBest 20 = .ok (.return_, 1) := by decide +kernel
theorem dX2_serveByBest_0 : decode cX2_serveByBest 0 = .ok (.aload_n 0, 1) := by decide +kernel
theorem dX2_serveByBest_1 : decode cX2_serveByBest 1 = .ok (.invokevirtual 278, 3) := by decide +kernel
theorem dX2_serveByBest_4 : decode cX2_serveByBest 4 = .ok (.iconst 0, 1) := by decide +kernel
theorem dX2_serveByBest_5 : decode cX2_serveByBest 5 = .ok (.istore_n 1, 1) := by decide +kernel
theorem dX2_serveByBest_6 : decode cX2_serveByBest 6 = .ok (.iload_n 1, 1) := by decide +kernel
theorem dX2_serveByBest_7 : decode cX2_serveByBest 7 = .ok (.bipush 12, 2) := by decide +kernel
theorem dX2_serveByBest_9 : decode cX2_serveByBest 9 = .ok (.if_icmp .ge 43, 3) := by decide +kernel
theorem dX2_serveByBest_12 : decode cX2_serveByBest 12 = .ok (.aload_n 0, 1) := by decide +kernel
theorem dX2_serveByBest_13 : decode cX2_serveByBest 13 = .ok (.getfield 27, 3) := by decide +kernel
theorem dX2_serveByBest_16 : decode cX2_serveByBest 16 = .ok (.iload_n 1, 1) := by decide +kernel
theorem dX2_serveByBest_17 : decode cX2_serveByBest 17 = .ok (.iaload, 1) := by decide +kernel
theorem dX2_serveByBest_18 : decode cX2_serveByBest 18 = .ok (.iconst 0, 1) := by decide +kernel
theorem dX2_serveByBest_19 : decode cX2_serveByBest 19 = .ok (.iconst 4, 1) := by decide +kernel
theorem dX2_serveByBest_20 : decode cX2_serveByBest 20 = .ok (.invokestatic 33, 3) := by decide +kernel
theorem dX2_serveByBest_23 : decode cX2_serveByBest 23 = .ok (.ifCond .eq 23, 3) := by decide +kernel
theorem dX2_serveByBest_26 : decode cX2_serveByBest 26 = .ok (.aload_n 0, 1) := by decide +kernel
theorem dX2_serveByBest_27 : decode cX2_serveByBest 27 = .ok (.getfield 18, 3) := by decide +kernel
theorem dX2_serveByBest_30 : decode cX2_serveByBest 30 = .ok (.aload_n 0, 1) := by decide +kernel
theorem dX2_serveByBest_31 : decode cX2_serveByBest 31 = .ok (.getfield 27, 3) := by decide +kernel
theorem dX2_serveByBest_34 : decode cX2_serveByBest 34 = .ok (.iload_n 1, 1) := by decide +kernel
theorem dX2_serveByBest_35 : decode cX2_serveByBest 35 = .ok (.iaload, 1) := by decide +kernel
theorem dX2_serveByBest_36 : decode cX2_serveByBest 36 = .ok (.aaload, 1) := by decide +kernel
theorem dX2_serveByBest_37 : decode cX2_serveByBest 37 = .ok (.aload_n 0, 1) := by decide +kernel
theorem dX2_serveByBest_38 : decode cX2_serveByBest 38 = .ok (.getfield 11, 3) := by decide +kernel
theorem dX2_serveByBest_41 : decode cX2_serveByBest 41 = .ok (.iload_n 1, 1) := by decide +kernel
theorem dX2_serveByBest_42 : decode cX2_serveByBest 42 = .ok (.aaload, 1) := by decide +kernel
theorem dX2_serveByBest_43 : decode cX2_serveByBest 43 = .ok (.invokevirtual 177, 3) := by decide +kernel
theorem dX2_serveByBest_46 : decode cX2_serveByBest 46 = .ok (.iinc 1 1, 3) := by decide +kernel
theorem dX2_serveByBest_49 : decode cX2_serveByBest 49 = .ok (.goto (-43), 3) := by decide +kernel
theorem dX2_serveByBest_52 : decode cX2_serveByBest 52 = .ok (.return_, 1) := by decide +kernel
theorem dX2_countGiven_0 : decode cX2_countGiven 0 = .ok (.iconst 0, 1) := by decide +kernel
theorem dX2_countGiven_1 : decode cX2_countGiven 1 = .ok (.istore_n 1, 1) := by decide +kernel
theorem dX2_countGiven_2 : decode cX2_countGiven 2 = .ok (.iconst 0, 1) := by decide +kernel
theorem dX2_countGiven_3 : decode cX2_countGiven 3 = .ok (.istore_n 2, 1) := by decide +kernel
theorem dX2_countGiven_4 : decode cX2_countGiven 4 = .ok (.iload_n 2, 1) := by decide +kernel
theorem dX2_countGiven_5 : decode cX2_countGiven 5 = .ok (.bipush 12, 2) := by decide +kernel
theorem dX2_countGiven_7 : decode cX2_countGiven 7 = .ok (.if_icmp .ge 22, 3) := by decide +kernel
theorem dX2_countGiven_10 : decode cX2_countGiven 10 = .ok (.aload_n 0, 1) := by decide +kernel
theorem dX2_countGiven_11 : decode cX2_countGiven 11 = .ok (.getfield 23, 3) := by decide +kernel
theorem dX2_countGiven_14 : decode cX2_countGiven 14 = .ok (.iload_n 2, 1) := by decide +kernel
theorem dX2_countGiven_15 : decode cX2_countGiven 15 = .ok (.iaload, 1) := by decide +kernel
theorem dX2_countGiven_16 : decode cX2_countGiven 16 = .ok (.iconst (-1), 1) := by decide +kernel
theorem dX2_countGiven_17 : decode cX2_countGiven 17 = .ok (.if_icmp .eq 6, 3) := by decide +kernel
theorem dX2_countGiven_20 : decode cX2_countGiven 20 = .ok (.iinc 1 1, 3) := by decide +kernel
theorem dX2_countGiven_23 : decode cX2_countGiven 23 = .ok (.iinc 2 1, 3) := by decide +kernel
theorem dX2_countGiven_26 : decode cX2_countGiven 26 = .ok (.goto (-22), 3) := by decide +kernel
theorem dX2_countGiven_29 : decode cX2_countGiven 29 = .ok (.iload_n 1, 1) := by decide +kernel
theorem dX2_countGiven_30 : decode cX2_countGiven 30 = .ok (.ireturn, 1) := by decide +kernel
theorem dX2_isAllowed_0 : decode cX2_isAllowed 0 = .ok (.iconst 0, 1) := by decide +kernel
theorem dX2_isAllowed_1 : decode cX2_isAllowed 1 = .ok (.istore_n 1, 1) := by decide +kernel
theorem dX2_isAllowed_2 : decode cX2_isAllowed 2 = .ok (.iload_n 1, 1) := by decide +kernel
theorem dX2_isAllowed_3 : decode cX2_isAllowed 3 = .ok (.iconst 5, 1) := by decide +kernel
theorem dX2_isAllowed_4 : decode cX2_isAllowed 4 = .ok (.if_icmp .ge 23, 3) := by decide +kernel
theorem dX2_isAllowed_7 : decode cX2_isAllowed 7 = .ok (.aload_n 0, 1) := by decide +kernel
theorem dX2_isAllowed_8 : decode cX2_isAllowed 8 = .ok (.getfield 18, 3) := by decide +kernel
theorem dX2_isAllowed_11 : decode cX2_isAllowed 11 = .ok (.iload_n 1, 1) := by decide +kernel
theorem dX2_isAllowed_12 : decode cX2_isAllowed 12 = .ok (.aaload, 1) := by decide +kernel
theorem dX2_isAllowed_13 : decode cX2_isAllowed 13 = .ok (.invokevirtual 227, 3) := by decide +kernel
theorem dX2_isAllowed_16 : decode cX2_isAllowed 16 = .ok (.ifCond .le 5, 3) := by decide +kernel
theorem dX2_isAllowed_19 : decode cX2_isAllowed 19 = .ok (.iconst 0, 1) := by decide +kernel
theorem dX2_isAllowed_20 : decode cX2_isAllowed 20 = .ok (.ireturn, 1) := by decide +kernel
theorem dX2_isAllowed_21 : decode cX2_isAllowed 21 = .ok (.iinc 1 1, 3) := by decide +kernel
theorem dX2_isAllowed_24 : decode cX2_isAllowed 24 = .ok (.goto (-22), 3) := by decide +kernel
theorem dX2_isAllowed_27 : decode cX2_isAllowed 27 = .ok (.iconst 1, 1) := by decide +kernel
theorem dX2_isAllowed_28 : decode cX2_isAllowed 28 = .ok (.ireturn, 1) := by decide +kernel
theorem dX2_sumOfMissing_0 : decode cX2_sumOfMissing 0 = .ok (.iconst 0, 1) := by decide +kernel
theorem dX2_sumOfMissing_1 : decode cX2_sumOfMissing 1 = .ok (.istore_n 1, 1) := by decide +kernel
theorem dX2_sumOfMissing_2 : decode cX2_sumOfMissing 2 = .ok (.iconst 0, 1) := by decide +kernel
theorem dX2_sumOfMissing_3 : decode cX2_sumOfMissing 3 = .ok (.istore_n 2, 1) := by decide +kernel
theorem dX2_sumOfMissing_4 : decode cX2_sumOfMissing 4 = .ok (.iload_n 2, 1) := by decide +kernel
theorem dX2_sumOfMissing_5 : decode cX2_sumOfMissing 5 = .ok (.iconst 5, 1) := by decide +kernel
theorem dX2_sumOfMissing_6 : decode cX2_sumOfMissing 6 = .ok (.if_icmp .ge 21, 3) := by decide +kernel
theorem dX2_sumOfMissing_9 : decode cX2_sumOfMissing 9 = .ok (.iload_n 1, 1) := by decide +kernel
theorem dX2_sumOfMissing_10 : decode cX2_sumOfMissing 10 = .ok (.aload_n 0, 1) := by decide +kernel
theorem dX2_sumOfMissing_11 : decode cX2_sumOfMissing 11 = .ok (.getfield 18, 3) := by decide +kernel
theorem dX2_sumOfMissing_14 : decode cX2_sumOfMissing 14 = .ok (.iload_n 2, 1) := by decide +kernel
theorem dX2_sumOfMissing_15 : decode cX2_sumOfMissing 15 = .ok (.aaload, 1) := by decide +kernel
theorem dX2_sumOfMissing_16 : decode cX2_sumOfMissing 16 = .ok (.invokevirtual 265, 3) := by decide +kernel
theorem dX2_sumOfMissing_19 : decode cX2_sumOfMissing 19 = .ok (.iadd, 1) := by decide +kernel
theorem dX2_sumOfMissing_20 : decode cX2_sumOfMissing 20 = .ok (.istore_n 1, 1) := by decide +kernel
theorem dX2_sumOfMissing_21 : decode cX2_sumOfMissing 21 = .ok (.iinc 2 1, 3) := by decide +kernel
theorem dX2_sumOfMissing_24 : decode cX2_sumOfMissing 24 = .ok (.goto (-20), 3) := by decide +kernel
theorem dX2_sumOfMissing_27 : decode cX2_sumOfMissing 27 = .ok (.iload_n 1, 1) := by decide +kernel
theorem dX2_sumOfMissing_28 : decode cX2_sumOfMissing 28 = .ok (.ireturn, 1) := by decide +kernel
end
section
theorem dX3_init_0 : decode cX3_init 0 = .ok (.aload_n 0, 1) := by decide +kernel
theorem dX3_init_1 : decode cX3_init 1 = .ok (.invokespecial 1, 3) := by decide +kernel
theorem dX3_init_4 : decode cX3_init 4 = .ok (.aload_n 0, 1) := by decide +kernel
theorem dX3_init_5 : decode cX3_init 5 = .ok (.bipush 12, 2) := by decide +kernel
theorem dX3_init_7 : decode cX3_init 7 = .ok (.newarray .int, 2) := by decide +kernel
theorem dX3_init_9 : decode cX3_init 9 = .ok (.putfield 7, 3) := by decide +kernel
theorem dX3_init_12 : decode cX3_init 12 = .ok (.aload_n 0, 1) := by decide +kernel
theorem dX3_init_13 : decode cX3_init 13 = .ok (.bipush 12, 2) := by decide +kernel
theorem dX3_init_15 : decode cX3_init 15 = .ok (.newarray .int, 2) := by decide +kernel
theorem dX3_init_17 : decode cX3_init 17 = .ok (.putfield 13, 3) := by decide +kernel
theorem dX3_init_20 : decode cX3_init 20 = .ok (.aload_n 0, 1) := by decide +kernel
theorem dX3_init_21 : decode cX3_init 21 = .ok (.bipush 12, 2) := by decide +kernel
theorem dX3_init_23 : decode cX3_init 23 = .ok (.newarray .int, 2) := by decide +kernel
theorem dX3_init_25 : decode cX3_init 25 = .ok (.putfield 16, 3) := by decide +kernel
theorem dX3_init_28 : decode cX3_init 28 = .ok (.aload_n 0, 1) := by decide +kernel
theorem dX3_init_29 : decode cX3_init 29 = .ok (.bipush 12, 2) := by decide +kernel
theorem dX3_init_31 : decode cX3_init 31 = .ok (.newarray .int, 2) := by decide +kernel
theorem dX3_init_33 : decode cX3_init 33 = .ok (.putfield 19, 3) := by decide +kernel
theorem dX3_init_36 : decode cX3_init 36 = .ok (.aload_n 0, 1) := by decide +kernel
theorem dX3_init_37 : decode cX3_init 37 = .ok (.bipush 12, 2) := by decide +kernel
theorem dX3_init_39 : decode cX3_init 39 = .ok (.newarray .int, 2) := by decide +kernel
theorem dX3_init_41 : decode cX3_init 41 = .ok (.putfield 22, 3) := by decide +kernel
theorem dX3_init_44 : decode cX3_init 44 = .ok (.aload_n 0, 1) := by decide +kernel
theorem dX3_init_45 : decode cX3_init 45 = .ok (.bipush 12, 2) := by decide +kernel
theorem dX3_init_47 : decode cX3_init 47 = .ok (.newarray .int, 2) := by decide +kernel
theorem dX3_init_49 : decode cX3_init 49 = .ok (.putfield 25, 3) := by decide +kernel
theorem dX3_init_52 : decode cX3_init 52 = .ok (.aload_n 0, 1) := by decide +kernel
theorem dX3_init_53 : decode cX3_init 53 = .ok (.bipush 12, 2) := by decide +kernel
theorem dX3_init_55 : decode cX3_init 55 = .ok (.newarray .int, 2) := by decide +kernel
theorem dX3_init_57 : decode cX3_init 57 = .ok (.putfield 28, 3) := by decide +kernel
theorem dX3_init_60 : decode cX3_init 60 = .ok (.aload_n 0, 1) := by decide +kernel
theorem dX3_init_61 : decode cX3_init 61 = .ok (.bipush 12, 2) := by decide +kernel
theorem dX3_init_63 : decode cX3_init 63 = .ok (.newarray .boolean, 2) := by decide +kernel
theorem dX3_init_65 : decode cX3_init 65 = .ok (.putfield 31, 3) := by decide +kernel
theorem dX3_init_68 : decode cX3_init 68 = .ok (.aload_n 0, 1) := by decide +kernel
theorem dX3_init_69 : decode cX3_init 69 = .ok (.iconst 5, 1) := by decide +kernel
theorem dX3_init_70 : decode cX3_init 70 = .ok (.newarray .boolean, 2) := by decide +kernel
theorem dX3_init_72 : decode cX3_init 72 = .ok (.putfield 35, 3) := by decide +kernel
theorem dX3_init_75 : decode cX3_init 75 = .ok (.aload_n 0, 1) := by decide +kernel
theorem dX3_init_76 : decode cX3_init 76 = .ok (.iconst 5, 1) := by decide +kernel
theorem dX3_init_77 : decode cX3_init 77 = .ok (.newarray .boolean, 2) := by decide +kernel
theorem dX3_init_79 : decode cX3_init 79 = .ok (.putfield 38, 3) := by decide +kernel
theorem dX3_init_82 : decode cX3_init 82 = .ok (.aload_n 0, 1) := by decide +kernel
theorem dX3_init_83 : decode cX3_init 83 = .ok (.iconst 5, 1) := by decide +kernel
theorem dX3_init_84 : decode cX3_init 84 = .ok (.newarray .boolean, 2) := by decide +kernel
theorem dX3_init_86 : decode cX3_init 86 = .ok (.putfield 41, 3) := by decide +kernel
theorem dX3_init_89 : decode cX3_init 89 = .ok (.aload_n 0, 1) := by decide +kernel
theorem dX3_init_90 : decode cX3_init 90 = .ok (.iconst 5, 1) := by decide +kernel
theorem dX3_init_91 : decode cX3_init 91 = .ok (.newarray .int, 2) := by decide +kernel
theorem dX3_init_93 : decode cX3_init 93 = .ok (.putfield 44, 3) := by decide +kernel
theorem dX3_init_96 : decode cX3_init 96 = .ok (.aload_n 0, 1) := by decide +kernel
theorem dX3_init_97 : decode cX3_init 97 = .ok (.iconst 5, 1) := by decide +kernel
theorem dX3_init_98 : decode cX3_init 98 = .ok (.newarray .int, 2) := by decide +kernel
theorem dX3_init_100 : decode cX3_init 100 = .ok (.putfield 47, 3) := by decide +kernel
theorem dX3_init_103 : decode cX3_init 103 = .ok (.aload_n 0, 1) := by decide +kernel
theorem dX3_init_104 : decode cX3_init 104 = .ok (.iconst 5, 1) := by decide +kernel
theorem dX3_init_105 : decode cX3_init 105 = .ok (.newarray .int, 2) := by decide +kernel
theorem dX3_init_107 : decode cX3_init 107 = .ok (.putfield 50, 3) := by decide +kernel
theorem dX3_init_110 : decode cX3_init 110 = .ok (.aload_n 0, 1) := by decide +kernel
theorem dX3_init_111 : decode cX3_init 111 = .ok (.iconst 5, 1) := by decide +kernel
theorem dX3_init_112 : decode cX3_init 112 = .ok (.newarray .int, 2) := by decide +kernel
theorem dX3_init_114 : decode cX3_init 114 = .ok (.putfield 53, 3) := by decide +kernel
theorem dX3_init_117 : decode cX3_init 117 = .ok (.aload_n 0, 1) := by decide +kernel
theorem dX3_init_118 : decode cX3_init 118 = .ok (.iconst 5, 1) := by decide +kernel
theorem dX3_init_119 : decode cX3_init 119 = .ok (.newarray .int, 2) := by decide +kernel
theorem dX3_init_121 : decode cX3_init 121 = .ok (.putfield 56, 3) := by decide +kernel
theorem dX3_init_124 : decode cX3_init 124 = .ok (.aload_n 0, 1) := by decide +kernel
theorem dX3_init_125 : decode cX3_init 125 = .ok (.iconst 5, 1) := by decide +kernel
theorem dX3_init_126 : decode cX3_init 126 = .ok (.newarray .int, 2) := by decide +kernel
theorem dX3_init_128 : decode cX3_init 128 = .ok (.putfield 59, 3) := by decide +kernel
theorem dX3_init_131 : decode cX3_init 131 = .ok (.aload_n 0, 1) := by decide +kernel
theorem dX3_init_132 : decode cX3_init 132 = .ok (.iconst 5, 1) := by decide +kernel
theorem dX3_init_133 : decode cX3_init 133 = .ok (.newarray .int, 2) := by decide +kernel
theorem dX3_init_135 : decode cX3_init 135 = .ok (.putfield 62, 3) := by decide +kernel
theorem dX3_init_138 : decode cX3_init 138 = .ok (.aload_n 0, 1) := by decide +kernel
theorem dX3_init_139 : decode cX3_init 139 = .ok (.iconst 5, 1) := by decide +kernel
theorem dX3_init_140 : decode cX3_init 140 = .ok (.newarray .char, 2) := by decide +kernel
theorem dX3_init_142 : decode cX3_init 142 = .ok (.putfield 65, 3) := by decide +kernel
theorem dX3_init_145 : decode cX3_init 145 = .ok (.aload_n 0, 1) := by decide +kernel
theorem dX3_init_146 : decode cX3_init 146 = .ok (.bipush 12, 2) := by decide +kernel
theorem dX3_init_148 : decode cX3_init 148 = .ok (.newarray .int, 2) := by decide +kernel
theorem dX3_init_150 : decode cX3_init 150 = .ok (.putfield 69, 3) := by decide +kernel
theorem dX3_init_153 : decode cX3_init 153 = .ok (.aload_n 0, 1) := by decide +kernel
theorem dX3_init_154 : decode cX3_init 154 = .ok (.bipush 12, 2) := by decide +kernel
theorem dX3_init_156 : decode cX3_init 156 = .ok (.newarray .int, 2) := by decide +kernel
theorem dX3_init_158 : decode cX3_init 158 = .ok (.putfield 72, 3) := by decide +kernel
theorem dX3_init_161 : decode cX3_init 161 = .ok (.aload_n 0, 1) := by decide +kernel
theorem dX3_init_162 : decode cX3_init 162 = .ok (.iconst 4, 1) := by decide +kernel
theorem dX3_init_163 : decode cX3_init 163 = .ok (.newarray .int, 2) := by decide +kernel
theorem dX3_init_165 : decode cX3_init 165 = .ok (.putfield 75, 3) := by decide +kernel
theorem dX3_init_168 : decode cX3_init 168 = .ok (.return_, 1) := by decide +kernel
theorem dX3_thrown_0 : decode cX3_thrown 0 = .ok (.aload_n 0, 1) := by decide +kernel
theorem dX3_thrown_1 : decode cX3_thrown 1 = .ok (.getfield 78, 3) := by decide +kernel
theorem dX3_thrown_4 : decode cX3_thrown 4 = .ok (.ireturn, 1) := by decide +kernel
theorem dX3_fail_0 : decode cX3_fail 0 = .ok (.aload_n 0, 1) := by decide +kernel
theorem dX3_fail_1 : decode cX3_fail 1 = .ok (.iload_n 1, 1) := by decide +kernel
theorem dX3_fail_2 : decode cX3_fail 2 = .ok (.putfield 78, 3) := by decide +kernel
theorem dX3_fail_5 : decode cX3_fail 5 = .ok (.iconst 0, 1) := by decide +kernel
theorem dX3_fail_6 : decode cX3_fail 6 = .ok (.ireturn, 1) := by decide +kernel
theorem dX3_isIn_0 : decode cX3_isIn 0 = .ok (.iload_n 0, 1) := by decide +kernel
theorem dX3_isIn_1 : decode cX3_isIn 1 = .ok (.iload_n 1, 1) := by decide +kernel
theorem dX3_isIn_2 : decode cX3_isIn 2 = .ok (.if_icmp .lt 12, 3) := by decide +kernel
theorem dX3_isIn_5 : decode cX3_isIn 5 = .ok (.iload_n 0, 1) := by decide +kernel
theorem dX3_isIn_6 : decode cX3_isIn 6 = .ok (.iload_n 2, 1) := by decide +kernel
theorem dX3_isIn_7 : decode cX3_isIn 7 = .ok (.if_icmp .gt 7, 3) := by decide +kernel
theorem dX3_isIn_10 : decode cX3_isIn 10 = .ok (.iconst 1, 1) := by decide +kernel
theorem dX3_isIn_11 : decode cX3_isIn 11 = .ok (.goto 4, 3) := by decide +kernel
theorem dX3_isIn_14 : decode cX3_isIn 14 = .ok (.iconst 0, 1) := by decide +kernel
theorem dX3_isIn_15 : decode cX3_isIn 15 = .ok (.ireturn, 1) := by decide +kernel
theorem dX3_noInstall_0 : decode cX3_noInstall 0 = .ok (.aload_n 0, 1) := by decide +kernel
theorem dX3_noInstall_1 : decode cX3_noInstall 1 = .ok (.aload_n 0, 1) := by decide +kernel
theorem dX3_noInstall_2 : decode cX3_noInstall 2 = .ok (.iload_n 1, 1) := by decide +kernel
theorem dX3_noInstall_3 : decode cX3_noInstall 3 = .ok (.invokevirtual 82, 3) := by decide +kernel
theorem dX3_noInstall_6 : decode cX3_noInstall 6 = .ok (.ifCond .eq 7, 3) := by decide +kernel
theorem dX3_noInstall_9 : decode cX3_noInstall 9 = .ok (.iconst 0, 1) := by decide +kernel
theorem dX3_noInstall_10 : decode cX3_noInstall 10 = .ok (.goto 4, 3) := by decide +kernel
theorem dX3_noInstall_13 : decode cX3_noInstall 13 = .ok (.iconst 1, 1) := by decide +kernel
theorem dX3_noInstall_14 : decode cX3_noInstall 14 = .ok (.putfield 78, 3) := by decide +kernel
theorem dX3_noInstall_17 : decode cX3_noInstall 17 = .ok (.aload_n 0, 1) := by decide +kernel
theorem dX3_noInstall_18 : decode cX3_noInstall 18 = .ok (.getfield 78, 3) := by decide +kernel
theorem dX3_noInstall_21 : decode cX3_noInstall 21 = .ok (.ifCond .eq 7, 3) := by decide +kernel
theorem dX3_noInstall_24 : decode cX3_noInstall 24 = .ok (.iconst 1, 1) := by decide +kernel
theorem dX3_noInstall_25 : decode cX3_noInstall 25 = .ok (.goto 4, 3) := by decide +kernel
theorem dX3_noInstall_28 : decode cX3_noInstall 28 = .ok (.iconst 0, 1) := by decide +kernel
theorem dX3_noInstall_29 : decode cX3_noInstall 29 = .ok (.ireturn, 1) := by decide +kernel
theorem dX3_noEntitlement_0 : decode cX3_noEntitlement 0 = .ok (.aload_n 0, 1) := by decide +kernel
theorem dX3_noEntitlement_1 : decode cX3_noEntitlement 1 = .ok (.iload_n 1, 1) := by decide +kernel
theorem dX3_noEntitlement_2 : decode cX3_noEntitlement 2 = .ok (.iconst 0, 1) := by decide +kernel
theorem dX3_noEntitlement_3 : decode cX3_noEntitlement 3 = .ok (.aload_n 0, 1) := by decide +kernel
theorem dX3_noEntitlement_4 : decode cX3_noEntitlement 4 = .ok (.getfield 86, 3) := by decide +kernel
theorem dX3_noEntitlement_7 : decode cX3_noEntitlement 7 = .ok (.iconst 1, 1) := by decide +kernel
theorem dX3_noEntitlement_8 : decode cX3_noEntitlement 8 = .ok (.isub, 1) := by decide +kernel
theorem dX3_noEntitlement_9 : decode cX3_noEntitlement 9 = .ok (.invokestatic 89, 3) := by decide +kernel
theorem dX3_noEntitlement_12 : decode cX3_noEntitlement 12 = .ok (.ifCond .eq 7, 3) := by decide +kernel
theorem dX3_noEntitlement_15 : decode cX3_noEntitlement 15 = .ok (.iconst 0, 1) := by decide +kernel
theorem dX3_noEntitlement_16 : decode cX3_noEntitlement 16 = .ok (.goto 4, 3) := by decide +kernel
theorem dX3_noEntitlement_19 : decode cX3_noEntitlement 19 = .ok (.iconst 1, 1) := by decide +kernel
theorem dX3_noEntitlement_20 : decode cX3_noEntitlement 20 = .ok (.putfield 78, 3) := by decide +kernel
theorem dX3_noEntitlement_23 : decode cX3_noEntitlement 23 = .ok (.aload_n 0, 1) := by decide +kernel
theorem dX3_noEntitlement_24 : decode cX3_noEntitlement 24 = .ok (.getfield 78, 3) := by decide +kernel
theorem dX3_noEntitlement_27 : decode cX3_noEntitlement 27 = .ok (.ifCond .eq 7, 3) := by decide +kernel
theorem dX3_noEntitlement_30 : decode cX3_noEntitlement 30 = .ok (.iconst 1, 1) := by decide +kernel
theorem dX3_noEntitlement_31 : decode cX3_noEntitlement 31 = .ok (.goto 4, 3) := by decide +kernel
theorem dX3_noEntitlement_34 : decode cX3_noEntitlement 34 = .ok (.iconst 0, 1) := by decide +kernel
theorem dX3_noEntitlement_35 : decode cX3_noEntitlement 35 = .ok (.ireturn, 1) := by decide +kernel
theorem dX3_install_0 : decode cX3_install 0 = .ok (.iload_n 1, 1) := by decide +kernel
theorem dX3_install_1 : decode cX3_install 1 = .ok (.iconst 0, 1) := by decide +kernel
theorem dX3_install_2 : decode cX3_install 2 = .ok (.iconst 3, 1) := by decide +kernel
theorem dX3_install_3 : decode cX3_install 3 = .ok (.invokestatic 89, 3) := by decide +kernel
theorem dX3_install_6 : decode cX3_install 6 = .ok (.ifCond .eq 65, 3) := by decide +kernel
theorem dX3_install_9 : decode cX3_install 9 = .ok (.iload_n 2, 1) := by decide +kernel
theorem dX3_install_10 : decode cX3_install 10 = .ok (.iconst 1, 1) := by decide +kernel
theorem dX3_install_11 : decode cX3_install 11 = .ok (.bipush 9, 2) := by decide +kernel
theorem dX3_install_13 : decode cX3_install 13 = .ok (.invokestatic 89, 3) := by decide +kernel
theorem dX3_install_16 : decode cX3_install 16 = .ok (.ifCond .eq 55, 3) := by decide +kernel
theorem dX3_install_19 : decode cX3_install 19 = .ok (.iload_n 3, 1) := by decide +kernel
theorem dX3_install_20 : decode cX3_install 20 = .ok (.iconst 1, 1) := by decide +kernel
theorem dX3_install_21 : decode cX3_install 21 = .ok (.iconst 3, 1) := by decide +kernel
theorem dX3_install_22 : decode cX3_install 22 = .ok (.invokestatic 89, 3) := by decide +kernel
theorem dX3_install_25 : decode cX3_install 25 = .ok (.ifCond .eq 46, 3) := by decide +kernel
theorem dX3_install_28 : decode cX3_install 28 = .ok (.iload 4, 2) := by decide +kernel
theorem dX3_install_30 : decode cX3_install 30 = .ok (.iconst 0, 1) := by decide +kernel
theorem dX3_install_31 : decode cX3_install 31 = .ok (.bipush 9, 2) := by decide +kernel
theorem dX3_install_33 : decode cX3_install 33 = .ok (.invokestatic 89, 3) := by decide +kernel
theorem dX3_install_36 : decode cX3_install 36 = .ok (.ifCond .eq 35, 3) := by decide +kernel
theorem dX3_install_39 : decode cX3_install 39 = .ok (.iload 5, 2) := by decide +kernel
theorem dX3_install_41 : decode cX3_install 41 = .ok (.iconst 0, 1) := by decide +kernel
theorem dX3_install_42 : decode cX3_install 42 = .ok (.bipush 9, 2) := by decide +kernel
theorem dX3_install_44 : decode cX3_install 44 = .ok (.invokestatic 89, 3) := by decide +kernel
theorem dX3_install_47 : decode cX3_install 47 = .ok (.ifCond .eq 24, 3) := by decide +kernel
theorem dX3_install_50 : decode cX3_install 50 = .ok (.iload 6, 2) := by decide +kernel
theorem dX3_install_52 : decode cX3_install 52 = .ok (.iconst 1, 1) := by decide +kernel
theorem dX3_install_53 : decode cX3_install 53 = .ok (.bipush 16, 2) := by decide +kernel
theorem dX3_install_55 : decode cX3_install 55 = .ok (.invokestatic 89, 3) := by decide +kernel
theorem dX3_install_58 : decode cX3_install 58 = .ok (.ifCond .eq 13, 3) := by decide +kernel
theorem dX3_install_61 : decode cX3_install 61 = .ok (.iload 7, 2) := by decide +kernel
theorem dX3_install_63 : decode cX3_install 63 = .ok (.iconst 0, 1) := by decide +kernel
theorem dX3_install_64 : decode cX3_install 64 = .ok (.iconst 2, 1) := by decide +kernel
theorem dX3_install_65 : decode cX3_install 65 = .ok (.invokestatic 89, 3) := by decide +kernel
theorem dX3_install_68 : decode cX3_install 68 = .ok (.ifCond .ne 9, 3) := by decide +kernel
theorem dX3_install_71 : decode cX3_install 71 = .ok (.aload_n 0, 1) := by decide +kernel
theorem dX3_install_72 : decode cX3_install 72 = .ok (.iconst 1, 1) := by decide +kernel
theorem dX3_install_73 : decode cX3_install 73 = .ok (.invokevirtual 93, 3) := by decide +kernel
theorem dX3_install_76 : decode cX3_install 76 = .ok (.ireturn, 1) := by decide +kernel
theorem dX3_install_77 : decode cX3_install 77 = .ok (.aload_n 0, 1) := by decide +kernel
theorem dX3_install_78 : decode cX3_install 78 = .ok (.getfield 97, 3) := by decide +kernel
theorem dX3_install_81 : decode cX3_install 81 = .ok (.bipush 6, 2) := by decide +kernel
theorem dX3_install_83 : decode cX3_install 83 = .ok (.if_icmp .eq 12, 3) := by decide +kernel
theorem dX3_install_86 : decode cX3_install 86 = .ok (.aload_n 0, 1) := by decide +kernel
theorem dX3_install_87 : decode cX3_install 87 = .ok (.getfield 100, 3) := by decide +kernel
theorem dX3_install_90 : decode cX3_install 90 = .ok (.bipush 12, 2) := by decide +kernel
theorem dX3_install_92 : decode cX3_install 92 = .ok (.if_icmp .ne 9, 3) := by decide +kernel
theorem dX3_install_95 : decode cX3_install 95 = .ok (.aload_n 0, 1) := by decide +kernel
theorem dX3_install_96 : decode cX3_install 96 = .ok (.iconst 2, 1) := by decide +kernel
theorem dX3_install_97 : decode cX3_install 97 = .ok (.invokevirtual 93, 3) := by decide +kernel
theorem dX3_install_100 : decode cX3_install 100 = .ok (.ireturn, 1) := by decide +kernel
theorem dX3_install_101 : decode cX3_install 101 = .ok (.aload_n 0, 1) := by decide +kernel
theorem dX3_install_102 : decode cX3_install 102 = .ok (.iconst 0, 1) := by decide +kernel
theorem dX3_install_103 : decode cX3_install 103 = .ok (.putfield 78, 3) := by decide +kernel
theorem dX3_install_106 : decode cX3_install 106 = .ok (.aload_n 0, 1) := by decide +kernel
theorem dX3_install_107 : decode cX3_install 107 = .ok (.getfield 7, 3) := by decide +kernel
theorem dX3_install_110 : decode cX3_install 110 = .ok (.aload_n 0, 1) := by decide +kernel
theorem dX3_install_111 : decode cX3_install 111 = .ok (.getfield 100, 3) := by decide +kernel
theorem dX3_install_114 : decode cX3_install 114 = .ok (.iload_n 1, 1) := by decide +kernel
theorem dX3_install_115 : decode cX3_install 115 = .ok (.iastore, 1) := by decide +kernel
theorem dX3_install_116 : decode cX3_install 116 = .ok (.aload_n 0, 1) := by decide +kernel
theorem dX3_install_117 : decode cX3_install 117 = .ok (.getfield 13, 3) := by decide +kernel
theorem dX3_install_120 : decode cX3_install 120 = .ok (.aload_n 0, 1) := by decide +kernel
theorem dX3_install_121 : decode cX3_install 121 = .ok (.getfield 100, 3) := by decide +kernel
theorem dX3_install_124 : decode cX3_install 124 = .ok (.iload_n 2, 1) := by decide +kernel
theorem dX3_install_125 : decode cX3_install 125 = .ok (.iastore, 1) := by decide +kernel
theorem dX3_install_126 : decode cX3_install 126 = .ok (.aload_n 0, 1) := by decide +kernel
theorem dX3_install_127 : decode cX3_install 127 = .ok (.getfield 16, 3) := by decide +kernel
theorem dX3_install_130 : decode cX3_install 130 = .ok (.aload_n 0, 1) := by decide +kernel
theorem dX3_install_131 : decode cX3_install 131 = .ok (.getfield 100, 3) := by decide +kernel
theorem dX3_install_134 : decode cX3_install 134 = .ok (.iload_n 3, 1) := by decide +kernel
theorem dX3_install_135 : decode cX3_install 135 = .ok (.iastore, 1) := by decide +kernel
theorem dX3_install_136 : decode cX3_install 136 = .ok (.aload_n 0, 1) := by decide +kernel
theorem dX3_install_137 : decode cX3_install 137 = .ok (.getfield 19, 3) := by decide +kernel
theorem dX3_install_140 : decode cX3_install 140 = .ok (.aload_n 0, 1) := by decide +kernel
theorem dX3_install_141 : decode cX3_install 141 = .ok (.getfield 100, 3) := by decide +kernel
theorem dX3_install_144 : decode cX3_install 144 = .ok (.iload 4, 2) := by decide +kernel
theorem dX3_install_146 : decode cX3_install 146 = .ok (.iastore, 1) := by decide +kernel
theorem dX3_install_147 : decode cX3_install 147 = .ok (.aload_n 0, 1) := by decide +kernel
theorem dX3_install_148 : decode cX3_install 148 = .ok (.getfield 22, 3) := by decide +kernel
theorem dX3_install_151 : decode cX3_install 151 = .ok (.aload_n 0, 1) := by decide +kernel
theorem dX3_install_152 : decode cX3_install 152 = .ok (.getfield 100, 3) := by decide +kernel
theorem dX3_install_155 : decode cX3_install 155 = .ok (.iload 5, 2) := by decide +kernel
theorem dX3_install_157 : decode cX3_install 157 = .ok (.iastore, 1) := by decide +kernel
theorem dX3_install_158 : decode cX3_install 158 = .ok (.aload_n 0, 1) := by decide +kernel
theorem dX3_install_159 : decode cX3_install 159 = .ok (.getfield 25, 3) := by decide +kernel
theorem dX3_install_162 : decode cX3_install 162 = .ok (.aload_n 0, 1) := by decide +kernel
theorem dX3_install_163 : decode cX3_install 163 = .ok (.getfield 100, 3) := by decide +kernel
theorem dX3_install_166 : decode cX3_install 166 = .ok (.iload 6, 2) := by decide +kernel
theorem dX3_install_168 : decode cX3_install 168 = .ok (.iastore, 1) := by decide +kernel
theorem dX3_install_169 : decode cX3_install 169 = .ok (.aload_n 0, 1) := by decide +kernel
theorem dX3_install_170 : decode cX3_install 170 = .ok (.getfield 28, 3) := by decide +kernel
theorem dX3_install_173 : decode cX3_install 173 = .ok (.aload_n 0, 1) := by decide +kernel
theorem dX3_install_174 : decode cX3_install 174 = .ok (.getfield 100, 3) := by decide +kernel
theorem dX3_install_177 : decode cX3_install 177 = .ok (.iload 7, 2) := by decide +kernel
theorem dX3_install_179 : decode cX3_install 179 = .ok (.iastore, 1) := by decide +kernel
theorem dX3_install_180 : decode cX3_install 180 = .ok (.aload_n 0, 1) := by decide +kernel
theorem dX3_install_181 : decode cX3_install 181 = .ok (.dup, 1) := by decide +kernel
theorem dX3_install_182 : decode cX3_install 182 = .ok (.getfield 97, 3) := by decide +kernel
theorem dX3_install_185 : decode cX3_install 185 = .ok (.iconst 1, 1) := by decide +kernel
theorem dX3_install_186 : decode cX3_install 186 = .ok (.iadd, 1) := by decide +kernel
theorem dX3_install_187 : decode cX3_install 187 = .ok (.putfield 97, 3) := by decide +kernel
theorem dX3_install_190 : decode cX3_install 190 = .ok (.aload_n 0, 1) := by decide +kernel
theorem dX3_install_191 : decode cX3_install 191 = .ok (.dup, 1) := by decide +kernel
theorem dX3_install_192 : decode cX3_install 192 = .ok (.getfield 100, 3) := by decide +kernel
theorem dX3_install_195 : decode cX3_install 195 = .ok (.dup_x1, 1) := by decide +kernel
theorem dX3_install_196 : decode cX3_install 196 = .ok (.iconst 1, 1) := by decide +kernel
theorem dX3_install_197 : decode cX3_install 197 = .ok (.iadd, 1) := by decide +kernel
theorem dX3_install_198 : decode cX3_install 198 = .ok (.putfield 100, 3) := by decide +kernel
theorem dX3_install_201 : decode cX3_install 201 = .ok (.ireturn, 1) := by decide +kernel
theorem dX3_retire_0 : decode cX3_retire 0 = .ok (.aload_n 0, 1) := by decide +kernel
theorem dX3_retire_1 : decode cX3_retire 1 = .ok (.iload_n 1, 1) := by decide +kernel
theorem dX3_retire_2 : decode cX3_retire 2 = .ok (.invokevirtual 103, 3) := by decide +kernel
theorem dX3_retire_5 : decode cX3_retire 5 = .ok (.ifCond .eq 5, 3) := by decide +kernel
theorem dX3_retire_8 : decode cX3_retire 8 = .ok (.iconst 0, 1) := by decide +kernel
theorem dX3_retire_9 : decode cX3_retire 9 = .ok (.ireturn, 1) := by decide +kernel
theorem dX3_retire_10 : decode cX3_retire 10 = .ok (.aload_n 0, 1) := by decide +kernel
theorem dX3_retire_11 : decode cX3_retire 11 = .ok (.getfield 31, 3) := by decide +kernel
theorem dX3_retire_14 : decode cX3_retire 14 = .ok (.iload_n 1, 1) := by decide +kernel
theorem dX3_retire_15 : decode cX3_retire 15 = .ok (.iconst 1, 1) := by decide +kernel
theorem dX3_retire_16 : decode cX3_retire 16 = .ok (.bastore, 1) := by decide +kernel
theorem dX3_retire_17 : decode cX3_retire 17 = .ok (.aload_n 0, 1) := by decide +kernel
theorem dX3_retire_18 : decode cX3_retire 18 = .ok (.dup, 1) := by decide +kernel
theorem dX3_retire_19 : decode cX3_retire 19 = .ok (.getfield 97, 3) := by decide +kernel
theorem dX3_retire_22 : decode cX3_retire 22 = .ok (.iconst 1, 1) := by decide +kernel
theorem dX3_retire_23 : decode cX3_retire 23 = .ok (.isub, 1) := by decide +kernel
theorem dX3_retire_24 : decode cX3_retire 24 = .ok (.dup_x1, 1) := by decide +kernel
theorem dX3_retire_25 : decode cX3_retire 25 = .ok (.putfield 97, 3) := by decide +kernel
theorem dX3_retire_28 : decode cX3_retire 28 = .ok (.ireturn, 1) := by decide +kernel
theorem dX3_moveTo_0 : decode cX3_moveTo 0 = .ok (.aload_n 0, 1) := by decide +kernel
theorem dX3_moveTo_1 : decode cX3_moveTo 1 = .ok (.iload_n 1, 1) := by decide +kernel
theorem dX3_moveTo_2 : decode cX3_moveTo 2 = .ok (.invokevirtual 103, 3) := by decide +kernel
theorem dX3_moveTo_5 : decode cX3_moveTo 5 = .ok (.ifCond .eq 5, 3) := by decide +kernel
theorem dX3_moveTo_8 : decode cX3_moveTo 8 = .ok (.iconst 0, 1) := by decide +kernel
theorem dX3_moveTo_9 : decode cX3_moveTo 9 = .ok (.ireturn, 1) := by decide +kernel
theorem dX3_moveTo_10 : decode cX3_moveTo 10 = .ok (.iload_n 2, 1) := by decide +kernel
theorem dX3_moveTo_11 : decode cX3_moveTo 11 = .ok (.iconst 0, 1) := by decide +kernel
theorem dX3_moveTo_12 : decode cX3_moveTo 12 = .ok (.bipush 9, 2) := by decide +kernel
theorem dX3_moveTo_14 : decode cX3_moveTo 14 = .ok (.invokestatic 89, 3) := by decide +kernel
theorem dX3_moveTo_17 : decode cX3_moveTo 17 = .ok (.ifCond .eq 13, 3) := by decide +kernel
theorem dX3_moveTo_20 : decode cX3_moveTo 20 = .ok (.iload_n 3, 1) := by decide +kernel
theorem dX3_moveTo_21 : decode cX3_moveTo 21 = .ok (.iconst 0, 1) := by decide +kernel
theorem dX3_moveTo_22 : decode cX3_moveTo 22 = .ok (.bipush 9, 2) := by decide +kernel
theorem dX3_moveTo_24 : decode cX3_moveTo 24 = .ok (.invokestatic 89, 3) := by decide +kernel
theorem dX3_moveTo_27 : decode cX3_moveTo 27 = .ok (.ifCond .ne 9, 3) := by decide +kernel
theorem dX3_moveTo_30 : decode cX3_moveTo 30 = .ok (.aload_n 0, 1) := by decide +kernel
theorem dX3_moveTo_31 : decode cX3_moveTo 31 = .ok (.iconst 2, 1) := by decide +kernel
theorem dX3_moveTo_32 : decode cX3_moveTo 32 = .ok (.invokevirtual 93, 3) := by decide +kernel
theorem dX3_moveTo_35 : decode cX3_moveTo 35 = .ok (.ireturn, 1) := by decide +kernel
theorem dX3_moveTo_36 : decode cX3_moveTo 36 = .ok (.aload_n 0, 1) := by decide +kernel
theorem dX3_moveTo_37 : decode cX3_moveTo 37 = .ok (.getfield 19, 3) := by decide +kernel
theorem dX3_moveTo_40 : decode cX3_moveTo 40 = .ok (.iload_n 1, 1) := by decide +kernel
theorem dX3_moveTo_41 : decode cX3_moveTo 41 = .ok (.iaload, 1) := by decide +kernel
theorem dX3_moveTo_42 : decode cX3_moveTo 42 = .ok (.istore 4, 2) := by decide +kernel
theorem dX3_moveTo_44 : decode cX3_moveTo 44 = .ok (.aload_n 0, 1) := by decide +kernel
theorem dX3_moveTo_45 : decode cX3_moveTo 45 = .ok (.getfield 19, 3) := by decide +kernel
theorem dX3_moveTo_48 : decode cX3_moveTo 48 = .ok (.iload_n 1, 1) := by decide +kernel
theorem dX3_moveTo_49 : decode cX3_moveTo 49 = .ok (.iload_n 2, 1) := by decide +kernel
theorem dX3_moveTo_50 : decode cX3_moveTo 50 = .ok (.iastore, 1) := by decide +kernel
theorem dX3_moveTo_51 : decode cX3_moveTo 51 = .ok (.aload_n 0, 1) := by decide +kernel
theorem dX3_moveTo_52 : decode cX3_moveTo 52 = .ok (.getfield 22, 3) := by decide +kernel
theorem dX3_moveTo_55 : decode cX3_moveTo 55 = .ok (.iload_n 1, 1) := by decide +kernel
theorem dX3_moveTo_56 : decode cX3_moveTo 56 = .ok (.iload_n 3, 1) := by decide +kernel
theorem dX3_moveTo_57 : decode cX3_moveTo 57 = .ok (.iastore, 1) := by decide +kernel
theorem dX3_moveTo_58 : decode cX3_moveTo 58 = .ok (.iload 4, 2) := by decide +kernel
theorem dX3_moveTo_60 : decode cX3_moveTo 60 = .ok (.ireturn, 1) := by decide +kernel
theorem dX3_setVersion_0 : decode cX3_setVersion 0 = .ok (.aload_n 0, 1) := by decide +kernel
theorem dX3_setVersion_1 : decode cX3_setVersion 1 = .ok (.iload_n 1, 1) := by decide +kernel
theorem dX3_setVersion_2 : decode cX3_setVersion 2 = .ok (.invokevirtual 103, 3) := by decide +kernel
theorem dX3_setVersion_5 : decode cX3_setVersion 5 = .ok (.ifCond .eq 5, 3) := by decide +kernel
theorem dX3_setVersion_8 : decode cX3_setVersion 8 = .ok (.iconst 0, 1) := by decide +kernel
theorem dX3_setVersion_9 : decode cX3_setVersion 9 = .ok (.ireturn, 1) := by decide +kernel
theorem dX3_setVersion_10 : decode cX3_setVersion 10 = .ok (.iload_n 2, 1) := by decide +kernel
theorem dX3_setVersion_11 : decode cX3_setVersion 11 = .ok (.iconst 1, 1) := by decide +kernel
theorem dX3_setVersion_12 : decode cX3_setVersion 12 = .ok (.bipush 9, 2) := by decide +kernel
theorem dX3_setVersion_14 : decode cX3_setVersion 14 = .ok (.invokestatic 89, 3) := by decide +kernel
theorem dX3_setVersion_17 : decode cX3_setVersion 17 = .ok (.ifCond .eq 12, 3) := by decide +kernel
theorem dX3_setVersion_20 : decode cX3_setVersion 20 = .ok (.iload_n 3, 1) := by decide +kernel
theorem dX3_setVersion_21 : decode cX3_setVersion 21 = .ok (.iconst 1, 1) := by decide +kernel
theorem dX3_setVersion_22 : decode cX3_setVersion 22 = .ok (.iconst 3, 1) := by decide +kernel
theorem dX3_setVersion_23 : decode cX3_setVersion 23 = .ok (.invokestatic 89, 3) := by decide +kernel
theorem dX3_setVersion_26 : decode cX3_setVersion 26 = .ok (.ifCond .ne 9, 3) := by decide +kernel
theorem dX3_setVersion_29 : decode cX3_setVersion 29 = .ok (.aload_n 0, 1) := by decide +kernel
theorem dX3_setVersion_30 : decode cX3_setVersion 30 = .ok (.iconst 2, 1) := by decide +kernel
theorem dX3_setVersion_31 : decode cX3_setVersion 31 = .ok (.invokevirtual 93, 3) := by decide +kernel
theorem dX3_setVersion_34 : decode cX3_setVersion 34 = .ok (.ireturn, 1) := by decide +kernel
theorem dX3_setVersion_35 : decode cX3_setVersion 35 = .ok (.aload_n 0, 1) := by decide +kernel
theorem dX3_setVersion_36 : decode cX3_setVersion 36 = .ok (.getfield 13, 3) := by decide +kernel
theorem dX3_setVersion_39 : decode cX3_setVersion 39 = .ok (.iload_n 1, 1) := by decide +kernel
theorem dX3_setVersion_40 : decode cX3_setVersion 40 = .ok (.iaload, 1) := by decide +kernel
theorem dX3_setVersion_41 : decode cX3_setVersion 41 = .ok (.istore 4, 2) := by decide +kernel
theorem dX3_setVersion_43 : decode cX3_setVersion 43 = .ok (.aload_n 0, 1) := by decide +kernel
theorem dX3_setVersion_44 : decode cX3_setVersion 44 = .ok (.getfield 13, 3) := by decide +kernel
theorem dX3_setVersion_47 : decode cX3_setVersion 47 = .ok (.iload_n 1, 1) := by decide +kernel
theorem dX3_setVersion_48 : decode cX3_setVersion 48 = .ok (.iload_n 2, 1) := by decide +kernel
theorem dX3_setVersion_49 : decode cX3_setVersion 49 = .ok (.iastore, 1) := by decide +kernel
theorem dX3_setVersion_50 : decode cX3_setVersion 50 = .ok (.aload_n 0, 1) := by decide +kernel
theorem dX3_setVersion_51 : decode cX3_setVersion 51 = .ok (.getfield 16, 3) := by decide +kernel
theorem dX3_setVersion_54 : decode cX3_setVersion 54 = .ok (.iload_n 1, 1) := by decide +kernel
theorem dX3_setVersion_55 : decode cX3_setVersion 55 = .ok (.iload_n 3, 1) := by decide +kernel
theorem dX3_setVersion_56 : decode cX3_setVersion 56 = .ok (.iastore, 1) := by decide +kernel
theorem dX3_setVersion_57 : decode cX3_setVersion 57 = .ok (.iload 4, 2) := by decide +kernel
theorem dX3_setVersion_59 : decode cX3_setVersion 59 = .ok (.ireturn, 1) := by decide +kernel
theorem dX3_setPool_0 : decode cX3_setPool 0 = .ok (.aload_n 0, 1) := by decide +kernel
theorem dX3_setPool_1 : decode cX3_setPool 1 = .ok (.iload_n 1, 1) := by decide +kernel
theorem dX3_setPool_2 : decode cX3_setPool 2 = .ok (.invokevirtual 103, 3) := by decide +kernel
theorem dX3_setPool_5 : decode cX3_setPool 5 = .ok (.ifCond .eq 5, 3) := by decide +kernel
theorem dX3_setPool_8 : decode cX3_setPool 8 = .ok (.iconst 0, 1) := by decide +kernel
theorem dX3_setPool_9 : decode cX3_setPool 9 = .ok (.ireturn, 1) := by decide +kernel
theorem dX3_setPool_10 : decode cX3_setPool 10 = .ok (.iload_n 2, 1) := by decide +kernel
theorem dX3_setPool_11 : decode cX3_setPool 11 = .ok (.iconst 0, 1) := by decide +kernel
theorem dX3_setPool_12 : decode cX3_setPool 12 = .ok (.iconst 2, 1) := by decide +kernel
theorem dX3_setPool_13 : decode cX3_setPool 13 = .ok (.invokestatic 89, 3) := by decide +kernel
theorem dX3_setPool_16 : decode cX3_setPool 16 = .ok (.ifCond .ne 9, 3) := by decide +kernel
theorem dX3_setPool_19 : decode cX3_setPool 19 = .ok (.aload_n 0, 1) := by decide +kernel
theorem dX3_setPool_20 : decode cX3_setPool 20 = .ok (.iconst 2, 1) := by decide +kernel
theorem dX3_setPool_21 : decode cX3_setPool 21 = .ok (.invokevirtual 93, 3) := by decide +kernel
theorem dX3_setPool_24 : decode cX3_setPool 24 = .ok (.ireturn, 1) := by decide +kernel
theorem dX3_setPool_25 : decode cX3_setPool 25 = .ok (.aload_n 0, 1) := by decide +kernel
theorem dX3_setPool_26 : decode cX3_setPool 26 = .ok (.getfield 28, 3) := by decide +kernel
theorem dX3_setPool_29 : decode cX3_setPool 29 = .ok (.iload_n 1, 1) := by decide +kernel
theorem dX3_setPool_30 : decode cX3_setPool 30 = .ok (.iaload, 1) := by decide +kernel
theorem dX3_setPool_31 : decode cX3_setPool 31 = .ok (.istore_n 3, 1) := by decide +kernel
theorem dX3_setPool_32 : decode cX3_setPool 32 = .ok (.aload_n 0, 1) := by decide +kernel
theorem dX3_setPool_33 : decode cX3_setPool 33 = .ok (.getfield 28, 3) := by decide +kernel
theorem dX3_setPool_36 : decode cX3_setPool 36 = .ok (.iload_n 1, 1) := by decide +kernel
theorem dX3_setPool_37 : decode cX3_setPool 37 = .ok (.iload_n 2, 1) := by decide +kernel
theorem dX3_setPool_38 : decode cX3_setPool 38 = .ok (.iastore, 1) := by decide +kernel
theorem dX3_setPool_39 : decode cX3_setPool 39 = .ok (.iload_n 3, 1) := by decide +kernel
theorem dX3_setPool_40 : decode cX3_setPool 40 = .ok (.ireturn, 1) := by decide +kernel
theorem dX3_installs_0 : decode cX3_installs 0 = .ok (.aload_n 0, 1) := by decide +kernel
theorem dX3_installs_1 : decode cX3_installs 1 = .ok (.getfield 97, 3) := by decide +kernel
theorem dX3_installs_4 : decode cX3_installs 4 = .ok (.ireturn, 1) := by decide +kernel
theorem dX3_isThere_0 : decode cX3_isThere 0 = .ok (.iload_n 1, 1) := by decide +kernel
theorem dX3_isThere_1 : decode cX3_isThere 1 = .ok (.iconst 0, 1) := by decide +kernel
theorem dX3_isThere_2 : decode cX3_isThere 2 = .ok (.aload_n 0, 1) := by decide +kernel
theorem dX3_isThere_3 : decode cX3_isThere 3 = .ok (.getfield 100, 3) := by decide +kernel
theorem dX3_isThere_6 : decode cX3_isThere 6 = .ok (.iconst 1, 1) := by decide +kernel
theorem dX3_isThere_7 : decode cX3_isThere 7 = .ok (.isub, 1) := by decide +kernel
theorem dX3_isThere_8 : decode cX3_isThere 8 = .ok (.invokestatic 89, 3) := by decide +kernel
theorem dX3_isThere_11 : decode cX3_isThere 11 = .ok (.ifCond .eq 16, 3) := by decide +kernel
theorem dX3_isThere_14 : decode cX3_isThere 14 = .ok (.aload_n 0, 1) := by decide +kernel
theorem dX3_isThere_15 : decode cX3_isThere 15 = .ok (.getfield 31, 3) := by decide +kernel
theorem dX3_isThere_18 : decode cX3_isThere 18 = .ok (.iload_n 1, 1) := by decide +kernel
theorem dX3_isThere_19 : decode cX3_isThere 19 = .ok (.baload, 1) := by decide +kernel
theorem dX3_isThere_20 : decode cX3_isThere 20 = .ok (.ifCond .ne 7, 3) := by decide +kernel
theorem dX3_isThere_23 : decode cX3_isThere 23 = .ok (.iconst 1, 1) := by decide +kernel
theorem dX3_isThere_24 : decode cX3_isThere 24 = .ok (.goto 4, 3) := by decide +kernel
theorem dX3_isThere_27 : decode cX3_isThere 27 = .ok (.iconst 0, 1) := by decide +kernel
theorem dX3_isThere_28 : decode cX3_isThere 28 = .ok (.ireturn, 1) := by decide +kernel
theorem dX3_entitle_0 : decode cX3_entitle 0 = .ok (.iload_n 1, 1) := by decide +kernel
theorem dX3_entitle_1 : decode cX3_entitle 1 = .ok (.iconst 1, 1) := by decide +kernel
theorem dX3_entitle_2 : decode cX3_entitle 2 = .ok (.bipush 15, 2) := by decide +kernel
theorem dX3_entitle_4 : decode cX3_entitle 4 = .ok (.invokestatic 89, 3) := by decide +kernel
theorem dX3_entitle_7 : decode cX3_entitle 7 = .ok (.ifCond .eq 64, 3) := by decide +kernel
theorem dX3_entitle_10 : decode cX3_entitle 10 = .ok (.iload_n 2, 1) := by decide +kernel
theorem dX3_entitle_11 : decode cX3_entitle 11 = .ok (.iconst 1, 1) := by decide +kernel
theorem dX3_entitle_12 : decode cX3_entitle 12 = .ok (.bipush 9, 2) := by decide +kernel
theorem dX3_entitle_14 : decode cX3_entitle 14 = .ok (.invokestatic 89, 3) := by decide +kernel
theorem dX3_entitle_17 : decode cX3_entitle 17 = .ok (.ifCond .eq 54, 3) := by decide +kernel
theorem dX3_entitle_20 : decode cX3_entitle 20 = .ok (.iload_n 3, 1) := by decide +kernel
theorem dX3_entitle_21 : decode cX3_entitle 21 = .ok (.iconst 1, 1) := by decide +kernel
theorem dX3_entitle_22 : decode cX3_entitle 22 = .ok (.iconst 3, 1) := by decide +kernel
theorem dX3_entitle_23 : decode cX3_entitle 23 = .ok (.invokestatic 89, 3) := by decide +kernel
theorem dX3_entitle_26 : decode cX3_entitle 26 = .ok (.ifCond .eq 45, 3) := by decide +kernel
theorem dX3_entitle_29 : decode cX3_entitle 29 = .ok (.iload 4, 2) := by decide +kernel
theorem dX3_entitle_31 : decode cX3_entitle 31 = .ok (.bipush 100, 2) := by decide +kernel
theorem dX3_entitle_33 : decode cX3_entitle 33 = .ok (.if_icmp .eq 17, 3) := by decide +kernel
theorem dX3_entitle_36 : decode cX3_entitle 36 = .ok (.iload 4, 2) := by decide +kernel
theorem dX3_entitle_38 : decode cX3_entitle 38 = .ok (.bipush 117, 2) := by decide +kernel
theorem dX3_entitle_40 : decode cX3_entitle 40 = .ok (.if_icmp .eq 10, 3) := by decide +kernel
theorem dX3_entitle_43 : decode cX3_entitle 43 = .ok (.iload 4, 2) := by decide +kernel
theorem dX3_entitle_45 : decode cX3_entitle 45 = .ok (.bipush 99, 2) := by decide +kernel
theorem dX3_entitle_47 : decode cX3_entitle 47 = .ok (.if_icmp .ne 24, 3) := by decide +kernel
theorem dX3_entitle_50 : decode cX3_entitle 50 = .ok (.iload 5, 2) := by decide +kernel
theorem dX3_entitle_52 : decode cX3_entitle 52 = .ok (.iconst 0, 1) := by decide +kernel
theorem dX3_entitle_53 : decode cX3_entitle 53 = .ok (.bipush 99, 2) := by decide +kernel
theorem dX3_entitle_55 : decode cX3_entitle 55 = .ok (.invokestatic 89, 3) := by decide +kernel
theorem dX3_entitle_58 : decode cX3_entitle 58 = .ok (.ifCond .eq 13, 3) := by decide +kernel
theorem dX3_entitle_61 : decode cX3_entitle 61 = .ok (.iload 6, 2) := by decide +kernel
theorem dX3_entitle_63 : decode cX3_entitle 63 = .ok (.iconst (-1), 1) := by decide +kernel
theorem dX3_entitle_64 : decode cX3_entitle 64 = .ok (.iconst 2, 1) := by decide +kernel
theorem dX3_entitle_65 : decode cX3_entitle 65 = .ok (.invokestatic 89, 3) := by decide +kernel
theorem dX3_entitle_68 : decode cX3_entitle 68 = .ok (.ifCond .ne 9, 3) := by decide +kernel
theorem dX3_entitle_71 : decode cX3_entitle 71 = .ok (.aload_n 0, 1) := by decide +kernel
theorem dX3_entitle_72 : decode cX3_entitle 72 = .ok (.iconst 1, 1) := by decide +kernel
theorem dX3_entitle_73 : decode cX3_entitle 73 = .ok (.invokevirtual 93, 3) := by decide +kernel
theorem dX3_entitle_76 : decode cX3_entitle 76 = .ok (.ireturn, 1) := by decide +kernel
theorem dX3_entitle_77 : decode cX3_entitle 77 = .ok (.aload_n 0, 1) := by decide +kernel
theorem dX3_entitle_78 : decode cX3_entitle 78 = .ok (.getfield 86, 3) := by decide +kernel
theorem dX3_entitle_81 : decode cX3_entitle 81 = .ok (.iconst 5, 1) := by decide +kernel
theorem dX3_entitle_82 : decode cX3_entitle 82 = .ok (.if_icmp .ne 9, 3) := by decide +kernel
theorem dX3_entitle_85 : decode cX3_entitle 85 = .ok (.aload_n 0, 1) := by decide +kernel
theorem dX3_entitle_86 : decode cX3_entitle 86 = .ok (.iconst 2, 1) := by decide +kernel
theorem dX3_entitle_87 : decode cX3_entitle 87 = .ok (.invokevirtual 93, 3) := by decide +kernel
theorem dX3_entitle_90 : decode cX3_entitle 90 = .ok (.ireturn, 1) := by decide +kernel
theorem dX3_entitle_91 : decode cX3_entitle 91 = .ok (.aload_n 0, 1) := by decide +kernel
theorem dX3_entitle_92 : decode cX3_entitle 92 = .ok (.iconst 0, 1) := by decide +kernel
theorem dX3_entitle_93 : decode cX3_entitle 93 = .ok (.putfield 78, 3) := by decide +kernel
theorem dX3_entitle_96 : decode cX3_entitle 96 = .ok (.aload_n 0, 1) := by decide +kernel
theorem dX3_entitle_97 : decode cX3_entitle 97 = .ok (.getfield 44, 3) := by decide +kernel
theorem dX3_entitle_100 : decode cX3_entitle 100 = .ok (.aload_n 0, 1) := by decide +kernel
theorem dX3_entitle_101 : decode cX3_entitle 101 = .ok (.getfield 86, 3) := by decide +kernel
theorem dX3_entitle_104 : decode cX3_entitle 104 = .ok (.iload_n 1, 1) := by decide +kernel
theorem dX3_entitle_105 : decode cX3_entitle 105 = .ok (.iastore, 1) := by decide +kernel
theorem dX3_entitle_106 : decode cX3_entitle 106 = .ok (.aload_n 0, 1) := by decide +kernel
theorem dX3_entitle_107 : decode cX3_entitle 107 = .ok (.getfield 47, 3) := by decide +kernel
theorem dX3_entitle_110 : decode cX3_entitle 110 = .ok (.aload_n 0, 1) := by decide +kernel
theorem dX3_entitle_111 : decode cX3_entitle 111 = .ok (.getfield 86, 3) := by decide +kernel
theorem dX3_entitle_114 : decode cX3_entitle 114 = .ok (.iload_n 2, 1) := by decide +kernel
theorem dX3_entitle_115 : decode cX3_entitle 115 = .ok (.iastore, 1) := by decide +kernel
theorem dX3_entitle_116 : decode cX3_entitle 116 = .ok (.aload_n 0, 1) := by decide +kernel
theorem dX3_entitle_117 : decode cX3_entitle 117 = .ok (.getfield 50, 3) := by decide +kernel
theorem dX3_entitle_120 : decode cX3_entitle 120 = .ok (.aload_n 0, 1) := by decide +kernel
theorem dX3_entitle_121 : decode cX3_entitle 121 = .ok (.getfield 86, 3) := by decide +kernel
theorem dX3_entitle_124 : decode cX3_entitle 124 = .ok (.iload_n 3, 1) := by decide +kernel
theorem dX3_entitle_125 : decode cX3_entitle 125 = .ok (.iastore, 1) := by decide +kernel
theorem dX3_entitle_126 : decode cX3_entitle 126 = .ok (.aload_n 0, 1) := by decide +kernel
theorem dX3_entitle_127 : decode cX3_entitle 127 = .ok (.getfield 65, 3) := by decide +kernel
theorem dX3_entitle_130 : decode cX3_entitle 130 = .ok (.aload_n 0, 1) := by decide +kernel
theorem dX3_entitle_131 : decode cX3_entitle 131 = .ok (.getfield 86, 3) := by decide +kernel
theorem dX3_entitle_134 : decode cX3_entitle 134 = .ok (.iload 4, 2) := by decide +kernel
theorem dX3_entitle_136 : decode cX3_entitle 136 = .ok (.castore, 1) := by decide +kernel
theorem dX3_entitle_137 : decode cX3_entitle 137 = .ok (.aload_n 0, 1) := by decide +kernel
theorem dX3_entitle_138 : decode cX3_entitle 138 = .ok (.getfield 53, 3) := by decide +kernel
theorem dX3_entitle_141 : decode cX3_entitle 141 = .ok (.aload_n 0, 1) := by decide +kernel
theorem dX3_entitle_142 : decode cX3_entitle 142 = .ok (.getfield 86, 3) := by decide +kernel
theorem dX3_entitle_145 : decode cX3_entitle 145 = .ok (.iload 5, 2) := by decide +kernel
theorem dX3_entitle_147 : decode cX3_entitle 147 = .ok (.iastore, 1) := by decide +kernel
theorem dX3_entitle_148 : decode cX3_entitle 148 = .ok (.aload_n 0, 1) := by decide +kernel
theorem dX3_entitle_149 : decode cX3_entitle 149 = .ok (.getfield 56, 3) := by decide +kernel
theorem dX3_entitle_152 : decode cX3_entitle 152 = .ok (.aload_n 0, 1) := by decide +kernel
theorem dX3_entitle_153 : decode cX3_entitle 153 = .ok (.getfield 86, 3) := by decide +kernel
theorem dX3_entitle_156 : decode cX3_entitle 156 = .ok (.iload 6, 2) := by decide +kernel
theorem dX3_entitle_158 : decode cX3_entitle 158 = .ok (.iastore, 1) := by decide +kernel
theorem dX3_entitle_159 : decode cX3_entitle 159 = .ok (.aload_n 0, 1) := by decide +kernel
theorem dX3_entitle_160 : decode cX3_entitle 160 = .ok (.getfield 59, 3) := by decide +kernel
theorem dX3_entitle_163 : decode cX3_entitle 163 = .ok (.aload_n 0, 1) := by decide +kernel
theorem dX3_entitle_164 : decode cX3_entitle 164 = .ok (.getfield 86, 3) := by decide +kernel
theorem dX3_entitle_167 : decode cX3_entitle 167 = .ok (.iconst 1, 1) := by decide +kernel
theorem dX3_entitle_168 : decode cX3_entitle 168 = .ok (.iastore, 1) := by decide +kernel
theorem dX3_entitle_169 : decode cX3_entitle 169 = .ok (.aload_n 0, 1) := by decide +kernel
theorem dX3_entitle_170 : decode cX3_entitle 170 = .ok (.getfield 62, 3) := by decide +kernel
theorem dX3_entitle_173 : decode cX3_entitle 173 = .ok (.aload_n 0, 1) := by decide +kernel
theorem dX3_entitle_174 : decode cX3_entitle 174 = .ok (.getfield 86, 3) := by decide +kernel
theorem dX3_entitle_177 : decode cX3_entitle 177 = .ok (.bipush 10, 2) := by decide +kernel
theorem dX3_entitle_179 : decode cX3_entitle 179 = .ok (.iastore, 1) := by decide +kernel
theorem dX3_entitle_180 : decode cX3_entitle 180 = .ok (.aload_n 0, 1) := by decide +kernel
theorem dX3_entitle_181 : decode cX3_entitle 181 = .ok (.dup, 1) := by decide +kernel
theorem dX3_entitle_182 : decode cX3_entitle 182 = .ok (.getfield 86, 3) := by decide +kernel
theorem dX3_entitle_185 : decode cX3_entitle 185 = .ok (.dup_x1, 1) := by decide +kernel
theorem dX3_entitle_186 : decode cX3_entitle 186 = .ok (.iconst 1, 1) := by decide +kernel
theorem dX3_entitle_187 : decode cX3_entitle 187 = .ok (.iadd, 1) := by decide +kernel
theorem dX3_entitle_188 : decode cX3_entitle 188 = .ok (.putfield 86, 3) := by decide +kernel
theorem dX3_entitle_191 : decode cX3_entitle 191 = .ok (.ireturn, 1) := by decide +kernel
theorem dX3_setRights_0 : decode cX3_setRights 0 = .ok (.aload_n 0, 1) := by decide +kernel
theorem dX3_setRights_1 : decode cX3_setRights 1 = .ok (.iload_n 1, 1) := by decide +kernel
theorem dX3_setRights_2 : decode cX3_setRights 2 = .ok (.invokevirtual 106, 3) := by decide +kernel
theorem dX3_setRights_5 : decode cX3_setRights 5 = .ok (.ifCond .eq 5, 3) := by decide +kernel
theorem dX3_setRights_8 : decode cX3_setRights 8 = .ok (.iconst 0, 1) := by decide +kernel
theorem dX3_setRights_9 : decode cX3_setRights 9 = .ok (.ireturn, 1) := by decide +kernel
theorem dX3_setRights_10 : decode cX3_setRights 10 = .ok (.aload_n 0, 1) := by decide +kernel
theorem dX3_setRights_11 : decode cX3_setRights 11 = .ok (.getfield 35, 3) := by decide +kernel
theorem dX3_setRights_14 : decode cX3_setRights 14 = .ok (.iload_n 1, 1) := by decide +kernel
theorem dX3_setRights_15 : decode cX3_setRights 15 = .ok (.baload, 1) := by decide +kernel
theorem dX3_setRights_16 : decode cX3_setRights 16 = .ok (.ifCond .eq 7, 3) := by decide +kernel
theorem dX3_setRights_19 : decode cX3_setRights 19 = .ok (.iconst 1, 1) := by decide +kernel
theorem dX3_setRights_20 : decode cX3_setRights 20 = .ok (.goto 4, 3) := by decide +kernel
theorem dX3_setRights_23 : decode cX3_setRights 23 = .ok (.iconst 0, 1) := by decide +kernel
theorem dX3_setRights_24 : decode cX3_setRights 24 = .ok (.aload_n 0, 1) := by decide +kernel
theorem dX3_setRights_25 : decode cX3_setRights 25 = .ok (.getfield 38, 3) := by decide +kernel
theorem dX3_setRights_28 : decode cX3_setRights 28 = .ok (.iload_n 1, 1) := by decide +kernel
theorem dX3_setRights_29 : decode cX3_setRights 29 = .ok (.baload, 1) := by decide +kernel
theorem dX3_setRights_30 : decode cX3_setRights 30 = .ok (.ifCond .eq 7, 3) := by decide +kernel
theorem dX3_setRights_33 : decode cX3_setRights 33 = .ok (.iconst 1, 1) := by decide +kernel
theorem dX3_setRights_34 : decode cX3_setRights 34 = .ok (.goto 4, 3) := by decide +kernel
theorem dX3_setRights_37 : decode cX3_setRights 37 = .ok (.iconst 0, 1) := by decide +kernel
theorem dX3_setRights_38 : decode cX3_setRights 38 = .ok (.iadd, 1) := by decide +kernel
theorem dX3_setRights_39 : decode cX3_setRights 39 = .ok (.aload_n 0, 1) := by decide +kernel
theorem dX3_setRights_40 : decode cX3_setRights 40 = .ok (.getfield 41, 3) := by decide +kernel
theorem dX3_setRights_43 : decode cX3_setRights 43 = .ok (.iload_n 1, 1) := by decide +kernel
theorem dX3_setRights_44 : decode cX3_setRights 44 = .ok (.baload, 1) := by decide +kernel
theorem dX3_setRights_45 : decode cX3_setRights 45 = .ok (.ifCond .eq 7, 3) := by decide +kernel
theorem dX3_setRights_48 : decode cX3_setRights 48 = .ok (.iconst 1, 1) := by decide +kernel
theorem dX3_setRights_49 : decode cX3_setRights 49 = .ok (.goto 4, 3) := by decide +kernel
theorem dX3_setRights_52 : decode cX3_setRights 52 = .ok (.iconst 0, 1) := by decide +kernel
theorem dX3_setRights_53 : decode cX3_setRights 53 = .ok (.iadd, 1) := by decide +kernel
theorem dX3_setRights_54 : decode cX3_setRights 54 = .ok (.istore 5, 2) := by decide +kernel
theorem dX3_setRights_56 : decode cX3_setRights 56 = .ok (.aload_n 0, 1) := by decide +kernel
theorem dX3_setRights_57 : decode cX3_setRights 57 = .ok (.getfield 35, 3) := by decide +kernel
theorem dX3_setRights_60 : decode cX3_setRights 60 = .ok (.iload_n 1, 1) := by decide +kernel
theorem dX3_setRights_61 : decode cX3_setRights 61 = .ok (.iload_n 2, 1) := by decide +kernel
theorem dX3_setRights_62 : decode cX3_setRights 62 = .ok (.bastore, 1) := by decide +kernel
theorem dX3_setRights_63 : decode cX3_setRights 63 = .ok (.aload_n 0, 1) := by decide +kernel
theorem dX3_setRights_64 : decode cX3_setRights 64 = .ok (.getfield 38, 3) := by decide +kernel
theorem dX3_setRights_67 : decode cX3_setRights 67 = .ok (.iload_n 1, 1) := by decide +kernel
theorem dX3_setRights_68 : decode cX3_setRights 68 = .ok (.iload_n 3, 1) := by decide +kernel
theorem dX3_setRights_69 : decode cX3_setRights 69 = .ok (.bastore, 1) := by decide +kernel
theorem dX3_setRights_70 : decode cX3_setRights 70 = .ok (.aload_n 0, 1) := by decide +kernel
theorem dX3_setRights_71 : decode cX3_setRights 71 = .ok (.getfield 41, 3) := by decide +kernel
theorem dX3_setRights_74 : decode cX3_setRights 74 = .ok (.iload_n 1, 1) := by decide +kernel
theorem dX3_setRights_75 : decode cX3_setRights 75 = .ok (.iload 4, 2) := by decide +kernel
theorem dX3_setRights_77 : decode cX3_setRights 77 = .ok (.bastore, 1) := by decide +kernel
theorem dX3_setRights_78 : decode cX3_setRights 78 = .ok (.iload 5, 2) := by decide +kernel
theorem dX3_setRights_80 : decode cX3_setRights 80 = .ok (.ireturn, 1) := by decide +kernel
theorem dX3_setMinimum_0 : decode cX3_setMinimum 0 = .ok (.aload_n 0, 1) := by decide +kernel
theorem dX3_setMinimum_1 : decode cX3_setMinimum 1 = .ok (.iload_n 1, 1) := by decide +kernel
theorem dX3_setMinimum_2 : decode cX3_setMinimum 2 = .ok (.invokevirtual 106, 3) := by decide +kernel
theorem dX3_setMinimum_5 : decode cX3_setMinimum 5 = .ok (.ifCond .eq 5, 3) := by decide +kernel
theorem dX3_setMinimum_8 : decode cX3_setMinimum 8 = .ok (.iconst 0, 1) := by decide +kernel
theorem dX3_setMinimum_9 : decode cX3_setMinimum 9 = .ok (.ireturn, 1) := by decide +kernel
theorem dX3_setMinimum_10 : decode cX3_setMinimum 10 = .ok (.iload_n 2, 1) := by decide +kernel
theorem dX3_setMinimum_11 : decode cX3_setMinimum 11 = .ok (.iconst 1, 1) := by decide +kernel
theorem dX3_setMinimum_12 : decode cX3_setMinimum 12 = .ok (.bipush 16, 2) := by decide +kernel
theorem dX3_setMinimum_14 : decode cX3_setMinimum 14 = .ok (.invokestatic 89, 3) := by decide +kernel
theorem dX3_setMinimum_17 : decode cX3_setMinimum 17 = .ok (.ifCond .ne 9, 3) := by decide +kernel
theorem dX3_setMinimum_20 : decode cX3_setMinimum 20 = .ok (.aload_n 0, 1) := by decide +kernel
theorem dX3_setMinimum_21 : decode cX3_setMinimum 21 = .ok (.iconst 2, 1) := by decide +kernel
theorem dX3_setMinimum_22 : decode cX3_setMinimum 22 = .ok (.invokevirtual 93, 3) := by decide +kernel
theorem dX3_setMinimum_25 : decode cX3_setMinimum 25 = .ok (.ireturn, 1) := by decide +kernel
theorem dX3_setMinimum_26 : decode cX3_setMinimum 26 = .ok (.aload_n 0, 1) := by decide +kernel
theorem dX3_setMinimum_27 : decode cX3_setMinimum 27 = .ok (.getfield 65, 3) := by decide +kernel
theorem dX3_setMinimum_30 : decode cX3_setMinimum 30 = .ok (.iload_n 1, 1) := by decide +kernel
theorem dX3_setMinimum_31 : decode cX3_setMinimum 31 = .ok (.caload, 1) := by decide +kernel
theorem dX3_setMinimum_32 : decode cX3_setMinimum 32 = .ok (.bipush 99, 2) := by decide +kernel
theorem dX3_setMinimum_34 : decode cX3_setMinimum 34 = .ok (.if_icmp .eq 9, 3) := by decide +kernel
theorem dX3_setMinimum_37 : decode cX3_setMinimum 37 = .ok (.aload_n 0, 1) := by decide +kernel
theorem dX3_setMinimum_38 : decode cX3_setMinimum 38 = .ok (.iconst 3, 1) := by decide +kernel
theorem dX3_setMinimum_39 : decode cX3_setMinimum 39 = .ok (.invokevirtual 93, 3) := by decide +kernel
theorem dX3_setMinimum_42 : decode cX3_setMinimum 42 = .ok (.ireturn, 1) := by decide +kernel
theorem dX3_setMinimum_43 : decode cX3_setMinimum 43 = .ok (.aload_n 0, 1) := by decide +kernel
theorem dX3_setMinimum_44 : decode cX3_setMinimum 44 = .ok (.getfield 59, 3) := by decide +kernel
theorem dX3_setMinimum_47 : decode cX3_setMinimum 47 = .ok (.iload_n 1, 1) := by decide +kernel
theorem dX3_setMinimum_48 : decode cX3_setMinimum 48 = .ok (.iaload, 1) := by decide +kernel
theorem dX3_setMinimum_49 : decode cX3_setMinimum 49 = .ok (.istore_n 3, 1) := by decide +kernel
theorem dX3_setMinimum_50 : decode cX3_setMinimum 50 = .ok (.aload_n 0, 1) := by decide +kernel
theorem dX3_setMinimum_51 : decode cX3_setMinimum 51 = .ok (.getfield 59, 3) := by decide +kernel
theorem dX3_setMinimum_54 : decode cX3_setMinimum 54 = .ok (.iload_n 1, 1) := by decide +kernel
theorem dX3_setMinimum_55 : decode cX3_setMinimum 55 = .ok (.iload_n 2, 1) := by decide +kernel
theorem dX3_setMinimum_56 : decode cX3_setMinimum 56 = .ok (.iastore, 1) := by decide +kernel
theorem dX3_setMinimum_57 : decode cX3_setMinimum 57 = .ok (.iload_n 3, 1) := by decide +kernel
theorem dX3_setMinimum_58 : decode cX3_setMinimum 58 = .ok (.ireturn, 1) := by decide +kernel
theorem dX3_setPrice_0 : decode cX3_setPrice 0 = .ok (.aload_n 0, 1) := by decide +kernel
theorem dX3_setPrice_1 : decode cX3_setPrice 1 = .ok (.iload_n 1, 1) := by decide +kernel
theorem dX3_setPrice_2 : decode cX3_setPrice 2 = .ok (.invokevirtual 106, 3) := by decide +kernel
theorem dX3_setPrice_5 : decode cX3_setPrice 5 = .ok (.ifCond .eq 5, 3) := by decide +kernel
theorem dX3_setPrice_8 : decode cX3_setPrice 8 = .ok (.iconst 0, 1) := by decide +kernel
theorem dX3_setPrice_9 : decode cX3_setPrice 9 = .ok (.ireturn, 1) := by decide +kernel
theorem dX3_setPrice_10 : decode cX3_setPrice 10 = .ok (.iload_n 2, 1) := by decide +kernel
theorem dX3_setPrice_11 : decode cX3_setPrice 11 = .ok (.iconst 1, 1) := by decide +kernel
theorem dX3_setPrice_12 : decode cX3_setPrice 12 = .ok (.bipush 99, 2) := by decide +kernel
theorem dX3_setPrice_14 : decode cX3_setPrice 14 = .ok (.invokestatic 89, 3) := by decide +kernel
theorem dX3_setPrice_17 : decode cX3_setPrice 17 = .ok (.ifCond .ne 9, 3) := by decide +kernel
theorem dX3_setPrice_20 : decode cX3_setPrice 20 = .ok (.aload_n 0, 1) := by decide +kernel
theorem dX3_setPrice_21 : decode cX3_setPrice 21 = .ok (.iconst 2, 1) := by decide +kernel
theorem dX3_setPrice_22 : decode cX3_setPrice 22 = .ok (.invokevirtual 93, 3) := by decide +kernel
theorem dX3_setPrice_25 : decode cX3_setPrice 25 = .ok (.ireturn, 1) := by decide +kernel
theorem dX3_setPrice_26 : decode cX3_setPrice 26 = .ok (.aload_n 0, 1) := by decide +kernel
theorem dX3_setPrice_27 : decode cX3_setPrice 27 = .ok (.getfield 62, 3) := by decide +kernel
theorem dX3_setPrice_30 : decode cX3_setPrice 30 = .ok (.iload_n 1, 1) := by decide +kernel
theorem dX3_setPrice_31 : decode cX3_setPrice 31 = .ok (.iaload, 1) := by decide +kernel
theorem dX3_setPrice_32 : decode cX3_setPrice 32 = .ok (.istore_n 3, 1) := by decide +kernel
theorem dX3_setPrice_33 : decode cX3_setPrice 33 = .ok (.aload_n 0, 1) := by decide +kernel
theorem dX3_setPrice_34 : decode cX3_setPrice 34 = .ok (.getfield 62, 3) := by decide +kernel
theorem dX3_setPrice_37 : decode cX3_setPrice 37 = .ok (.iload_n 1, 1) := by decide +kernel
theorem dX3_setPrice_38 : decode cX3_setPrice 38 = .ok (.iload_n 2, 1) := by decide +kernel
theorem dX3_setPrice_39 : decode cX3_setPrice 39 = .ok (.iastore, 1) := by decide +kernel
theorem dX3_setPrice_40 : decode cX3_setPrice 40 = .ok (.iload_n 3, 1) := by decide +kernel
theorem dX3_setPrice_41 : decode cX3_setPrice 41 = .ok (.ireturn, 1) := by decide +kernel
theorem dX3_addUnits_0 : decode cX3_addUnits 0 = .ok (.aload_n 0, 1) := by decide +kernel
theorem dX3_addUnits_1 : decode cX3_addUnits 1 = .ok (.iload_n 1, 1) := by decide +kernel
theorem dX3_addUnits_2 : decode cX3_addUnits 2 = .ok (.invokevirtual 106, 3) := by decide +kernel
theorem dX3_addUnits_5 : decode cX3_addUnits 5 = .ok (.ifCond .eq 5, 3) := by decide +kernel
theorem dX3_addUnits_8 : decode cX3_addUnits 8 = .ok (.iconst 0, 1) := by decide +kernel
theorem dX3_addUnits_9 : decode cX3_addUnits 9 = .ok (.ireturn, 1) := by decide +kernel
theorem dX3_addUnits_10 : decode cX3_addUnits 10 = .ok (.iload_n 2, 1) := by decide +kernel
theorem dX3_addUnits_11 : decode cX3_addUnits 11 = .ok (.iconst 1, 1) := by decide +kernel
theorem dX3_addUnits_12 : decode cX3_addUnits 12 = .ok (.bipush 99, 2) := by decide +kernel
theorem dX3_addUnits_14 : decode cX3_addUnits 14 = .ok (.invokestatic 89, 3) := by decide +kernel
theorem dX3_addUnits_17 : decode cX3_addUnits 17 = .ok (.ifCond .ne 9, 3) := by decide +kernel
theorem dX3_addUnits_20 : decode cX3_addUnits 20 = .ok (.aload_n 0, 1) := by decide +kernel
theorem dX3_addUnits_21 : decode cX3_addUnits 21 = .ok (.iconst 2, 1) := by decide +kernel
theorem dX3_addUnits_22 : decode cX3_addUnits 22 = .ok (.invokevirtual 93, 3) := by decide +kernel
theorem dX3_addUnits_25 : decode cX3_addUnits 25 = .ok (.ireturn, 1) := by decide +kernel
theorem dX3_addUnits_26 : decode cX3_addUnits 26 = .ok (.aload_n 0, 1) := by decide +kernel
theorem dX3_addUnits_27 : decode cX3_addUnits 27 = .ok (.getfield 53, 3) := by decide +kernel
theorem dX3_addUnits_30 : decode cX3_addUnits 30 = .ok (.iload_n 1, 1) := by decide +kernel
theorem dX3_addUnits_31 : decode cX3_addUnits 31 = .ok (.iaload, 1) := by decide +kernel
theorem dX3_addUnits_32 : decode cX3_addUnits 32 = .ok (.iload_n 2, 1) := by decide +kernel
theorem dX3_addUnits_33 : decode cX3_addUnits 33 = .ok (.iadd, 1) := by decide +kernel
theorem dX3_addUnits_34 : decode cX3_addUnits 34 = .ok (.sipush 999, 3) := by decide +kernel
theorem dX3_addUnits_37 : decode cX3_addUnits 37 = .ok (.if_icmp .le 9, 3) := by decide +kernel
theorem dX3_addUnits_40 : decode cX3_addUnits 40 = .ok (.aload_n 0, 1) := by decide +kernel
theorem dX3_addUnits_41 : decode cX3_addUnits 41 = .ok (.iconst 3, 1) := by decide +kernel
theorem dX3_addUnits_42 : decode cX3_addUnits 42 = .ok (.invokevirtual 93, 3) := by decide +kernel
theorem dX3_addUnits_45 : decode cX3_addUnits 45 = .ok (.ireturn, 1) := by decide +kernel
theorem dX3_addUnits_46 : decode cX3_addUnits 46 = .ok (.aload_n 0, 1) := by decide +kernel
theorem dX3_addUnits_47 : decode cX3_addUnits 47 = .ok (.getfield 53, 3) := by decide +kernel
theorem dX3_addUnits_50 : decode cX3_addUnits 50 = .ok (.iload_n 1, 1) := by decide +kernel
theorem dX3_addUnits_51 : decode cX3_addUnits 51 = .ok (.dup2, 1) := by decide +kernel
theorem dX3_addUnits_52 : decode cX3_addUnits 52 = .ok (.iaload, 1) := by decide +kernel
theorem dX3_addUnits_53 : decode cX3_addUnits 53 = .ok (.iload_n 2, 1) := by decide +kernel
theorem dX3_addUnits_54 : decode cX3_addUnits 54 = .ok (.iadd, 1) := by decide +kernel
theorem dX3_addUnits_55 : decode cX3_addUnits 55 = .ok (.iastore, 1) := by decide +kernel
theorem dX3_addUnits_56 : decode cX3_addUnits 56 = .ok (.aload_n 0, 1) := by decide +kernel
theorem dX3_addUnits_57 : decode cX3_addUnits 57 = .ok (.getfield 53, 3) := by decide +kernel
theorem dX3_addUnits_60 : decode cX3_addUnits 60 = .ok (.iload_n 1, 1) := by decide +kernel
theorem dX3_addUnits_61 : decode cX3_addUnits 61 = .ok (.iaload, 1) := by decide +kernel
theorem dX3_addUnits_62 : decode cX3_addUnits 62 = .ok (.ireturn, 1) := by decide +kernel
theorem dX3_units_0 : decode cX3_units 0 = .ok (.aload_n 0, 1) := by decide +kernel
theorem dX3_units_1 : decode cX3_units 1 = .ok (.iload_n 1, 1) := by decide +kernel
theorem dX3_units_2 : decode cX3_units 2 = .ok (.invokevirtual 106, 3) := by decide +kernel
theorem dX3_units_5 : decode cX3_units 5 = .ok (.ifCond .eq 7, 3) := by decide +kernel
theorem dX3_units_8 : decode cX3_units 8 = .ok (.iconst 0, 1) := by decide +kernel
theorem dX3_units_9 : decode cX3_units 9 = .ok (.goto 9, 3) := by decide +kernel
theorem dX3_units_12 : decode cX3_units 12 = .ok (.aload_n 0, 1) := by decide +kernel
theorem dX3_units_13 : decode cX3_units 13 = .ok (.getfield 53, 3) := by decide +kernel
theorem dX3_units_16 : decode cX3_units 16 = .ok (.iload_n 1, 1) := by decide +kernel
theorem dX3_units_17 : decode cX3_units 17 = .ok (.iaload, 1) := by decide +kernel
theorem dX3_units_18 : decode cX3_units 18 = .ok (.ireturn, 1) := by decide +kernel
theorem dX3_isSet_0 : decode cX3_isSet 0 = .ok (.iload_n 0, 1) := by decide +kernel
theorem dX3_isSet_1 : decode cX3_isSet 1 = .ok (.istore_n 2, 1) := by decide +kernel
theorem dX3_isSet_2 : decode cX3_isSet 2 = .ok (.iconst 0, 1) := by decide +kernel
theorem dX3_isSet_3 : decode cX3_isSet 3 = .ok (.istore_n 3, 1) := by decide +kernel
theorem dX3_isSet_4 : decode cX3_isSet 4 = .ok (.iload_n 3, 1) := by decide +kernel
theorem dX3_isSet_5 : decode cX3_isSet 5 = .ok (.iload_n 1, 1) := by decide +kernel
theorem dX3_isSet_6 : decode cX3_isSet 6 = .ok (.if_icmp .ge 13, 3) := by decide +kernel
theorem dX3_isSet_9 : decode cX3_isSet 9 = .ok (.iload_n 2, 1) := by decide +kernel
theorem dX3_isSet_10 : decode cX3_isSet 10 = .ok (.iconst 2, 1) := by decide +kernel
theorem dX3_isSet_11 : decode cX3_isSet 11 = .ok (.idiv, 1) := by decide +kernel
theorem dX3_isSet_12 : decode cX3_isSet 12 = .ok (.istore_n 2, 1) := by decide +kernel
theorem dX3_isSet_13 : decode cX3_isSet 13 = .ok (.iinc 3 1, 3) := by decide +kernel
theorem dX3_isSet_16 : decode cX3_isSet 16 = .ok (.goto (-12), 3) := by decide +kernel
theorem dX3_isSet_19 : decode cX3_isSet 19 = .ok (.iload_n 2, 1) := by decide +kernel
theorem dX3_isSet_20 : decode cX3_isSet 20 = .ok (.iconst 2, 1) := by decide +kernel
theorem dX3_isSet_21 : decode cX3_isSet 21 = .ok (.irem, 1) := by decide +kernel
theorem dX3_isSet_22 : decode cX3_isSet 22 = .ok (.iconst 1, 1) := by decide +kernel
theorem dX3_isSet_23 : decode cX3_isSet 23 = .ok (.if_icmp .ne 7, 3) := by decide +kernel
theorem dX3_isSet_26 : decode cX3_isSet 26 = .ok (.iconst 1, 1) := by decide +kernel
theorem dX3_isSet_27 : decode cX3_isSet 27 = .ok (.goto 4, 3) := by decide +kernel
theorem dX3_isSet_30 : decode cX3_isSet 30 = .ok (.iconst 0, 1) := by decide +kernel
theorem dX3_isSet_31 : decode cX3_isSet 31 = .ok (.ireturn, 1) := by decide +kernel
theorem dX3_reasonOf_0 : decode cX3_reasonOf 0 = .ok (.aload_n 0, 1) := by decide +kernel
theorem dX3_reasonOf_1 : decode cX3_reasonOf 1 = .ok (.getfield 44, 3) := by decide +kernel
theorem dX3_reasonOf_4 : decode cX3_reasonOf 4 = .ok (.iload_n 2, 1) := by decide +kernel
theorem dX3_reasonOf_5 : decode cX3_reasonOf 5 = .ok (.iaload, 1) := by decide +kernel
theorem dX3_reasonOf_6 : decode cX3_reasonOf 6 = .ok (.aload_n 0, 1) := by decide +kernel
theorem dX3_reasonOf_7 : decode cX3_reasonOf 7 = .ok (.getfield 7, 3) := by decide +kernel
theorem dX3_reasonOf_10 : decode cX3_reasonOf 10 = .ok (.iload_n 1, 1) := by decide +kernel
theorem dX3_reasonOf_11 : decode cX3_reasonOf 11 = .ok (.iaload, 1) := by decide +kernel
theorem dX3_reasonOf_12 : decode cX3_reasonOf 12 = .ok (.invokestatic 109, 3) := by decide +kernel
theorem dX3_reasonOf_15 : decode cX3_reasonOf 15 = .ok (.ifCond .ne 6, 3) := by decide +kernel
theorem dX3_reasonOf_18 : decode cX3_reasonOf 18 = .ok (.bipush 112, 2) := by decide +kernel
theorem dX3_reasonOf_20 : decode cX3_reasonOf 20 = .ok (.ireturn, 1) := by decide +kernel
theorem dX3_reasonOf_21 : decode cX3_reasonOf 21 = .ok (.aload_n 0, 1) := by decide +kernel
theorem dX3_reasonOf_22 : decode cX3_reasonOf 22 = .ok (.getfield 56, 3) := by decide +kernel
theorem dX3_reasonOf_25 : decode cX3_reasonOf 25 = .ok (.iload_n 2, 1) := by decide +kernel
theorem dX3_reasonOf_26 : decode cX3_reasonOf 26 = .ok (.iaload, 1) := by decide +kernel
theorem dX3_reasonOf_27 : decode cX3_reasonOf 27 = .ok (.iconst (-1), 1) := by decide +kernel
theorem dX3_reasonOf_28 : decode cX3_reasonOf 28 = .ok (.if_icmp .eq 21, 3) := by decide +kernel
theorem dX3_reasonOf_31 : decode cX3_reasonOf 31 = .ok (.aload_n 0, 1) := by decide +kernel
theorem dX3_reasonOf_32 : decode cX3_reasonOf 32 = .ok (.getfield 56, 3) := by decide +kernel
theorem dX3_reasonOf_35 : decode cX3_reasonOf 35 = .ok (.iload_n 2, 1) := by decide +kernel
theorem dX3_reasonOf_36 : decode cX3_reasonOf 36 = .ok (.iaload, 1) := by decide +kernel
theorem dX3_reasonOf_37 : decode cX3_reasonOf 37 = .ok (.aload_n 0, 1) := by decide +kernel
theorem dX3_reasonOf_38 : decode cX3_reasonOf 38 = .ok (.getfield 28, 3) := by decide +kernel
theorem dX3_reasonOf_41 : decode cX3_reasonOf 41 = .ok (.iload_n 1, 1) := by decide +kernel
theorem dX3_reasonOf_42 : decode cX3_reasonOf 42 = .ok (.iaload, 1) := by decide +kernel
theorem dX3_reasonOf_43 : decode cX3_reasonOf 43 = .ok (.if_icmp .eq 6, 3) := by decide +kernel
theorem dX3_reasonOf_46 : decode cX3_reasonOf 46 = .ok (.bipush 111, 2) := by decide +kernel
theorem dX3_reasonOf_48 : decode cX3_reasonOf 48 = .ok (.ireturn, 1) := by decide +kernel
theorem dX3_reasonOf_49 : decode cX3_reasonOf 49 = .ok (.aload_n 0, 1) := by decide +kernel
theorem dX3_reasonOf_50 : decode cX3_reasonOf 50 = .ok (.getfield 16, 3) := by decide +kernel
theorem dX3_reasonOf_53 : decode cX3_reasonOf 53 = .ok (.iload_n 1, 1) := by decide +kernel
theorem dX3_reasonOf_54 : decode cX3_reasonOf 54 = .ok (.iaload, 1) := by decide +kernel
theorem dX3_reasonOf_55 : decode cX3_reasonOf 55 = .ok (.aload_n 0, 1) := by decide +kernel
theorem dX3_reasonOf_56 : decode cX3_reasonOf 56 = .ok (.getfield 50, 3) := by decide +kernel
theorem dX3_reasonOf_59 : decode cX3_reasonOf 59 = .ok (.iload_n 2, 1) := by decide +kernel
theorem dX3_reasonOf_60 : decode cX3_reasonOf 60 = .ok (.iaload, 1) := by decide +kernel
theorem dX3_reasonOf_61 : decode cX3_reasonOf 61 = .ok (.if_icmp .gt 27, 3) := by decide +kernel
theorem dX3_reasonOf_64 : decode cX3_reasonOf 64 = .ok (.aload_n 0, 1) := by decide +kernel
theorem dX3_reasonOf_65 : decode cX3_reasonOf 65 = .ok (.getfield 16, 3) := by decide +kernel
theorem dX3_reasonOf_68 : decode cX3_reasonOf 68 = .ok (.iload_n 1, 1) := by decide +kernel
theorem dX3_reasonOf_69 : decode cX3_reasonOf 69 = .ok (.iaload, 1) := by decide +kernel
theorem dX3_reasonOf_70 : decode cX3_reasonOf 70 = .ok (.aload_n 0, 1) := by decide +kernel
theorem dX3_reasonOf_71 : decode cX3_reasonOf 71 = .ok (.getfield 50, 3) := by decide +kernel
theorem dX3_reasonOf_74 : decode cX3_reasonOf 74 = .ok (.iload_n 2, 1) := by decide +kernel
theorem dX3_reasonOf_75 : decode cX3_reasonOf 75 = .ok (.iaload, 1) := by decide +kernel
theorem dX3_reasonOf_76 : decode cX3_reasonOf 76 = .ok (.if_icmp .ge 15, 3) := by decide +kernel
theorem dX3_reasonOf_79 : decode cX3_reasonOf 79 = .ok (.aload_n 0, 1) := by decide +kernel
theorem dX3_reasonOf_80 : decode cX3_reasonOf 80 = .ok (.getfield 35, 3) := by decide +kernel
theorem dX3_reasonOf_83 : decode cX3_reasonOf 83 = .ok (.iload_n 2, 1) := by decide +kernel
theorem dX3_reasonOf_84 : decode cX3_reasonOf 84 = .ok (.baload, 1) := by decide +kernel
theorem dX3_reasonOf_85 : decode cX3_reasonOf 85 = .ok (.ifCond .ne 6, 3) := by decide +kernel
theorem dX3_reasonOf_88 : decode cX3_reasonOf 88 = .ok (.bipush 101, 2) := by decide +kernel
theorem dX3_reasonOf_90 : decode cX3_reasonOf 90 = .ok (.ireturn, 1) := by decide +kernel
theorem dX3_reasonOf_91 : decode cX3_reasonOf 91 = .ok (.aload_n 0, 1) := by decide +kernel
theorem dX3_reasonOf_92 : decode cX3_reasonOf 92 = .ok (.getfield 13, 3) := by decide +kernel
theorem dX3_reasonOf_95 : decode cX3_reasonOf 95 = .ok (.iload_n 1, 1) := by decide +kernel
theorem dX3_reasonOf_96 : decode cX3_reasonOf 96 = .ok (.iaload, 1) := by decide +kernel
theorem dX3_reasonOf_97 : decode cX3_reasonOf 97 = .ok (.aload_n 0, 1) := by decide +kernel
theorem dX3_reasonOf_98 : decode cX3_reasonOf 98 = .ok (.getfield 47, 3) := by decide +kernel
theorem dX3_reasonOf_101 : decode cX3_reasonOf 101 = .ok (.iload_n 2, 1) := by decide +kernel
theorem dX3_reasonOf_102 : decode cX3_reasonOf 102 = .ok (.iaload, 1) := by decide +kernel
theorem dX3_reasonOf_103 : decode cX3_reasonOf 103 = .ok (.if_icmp .ge 12, 3) := by decide +kernel
theorem dX3_reasonOf_106 : decode cX3_reasonOf 106 = .ok (.aload_n 0, 1) := by decide +kernel
theorem dX3_reasonOf_107 : decode cX3_reasonOf 107 = .ok (.getfield 35, 3) := by decide +kernel
theorem dX3_reasonOf_110 : decode cX3_reasonOf 110 = .ok (.iload_n 2, 1) := by decide +kernel
theorem dX3_reasonOf_111 : decode cX3_reasonOf 111 = .ok (.baload, 1) := by decide +kernel
theorem dX3_reasonOf_112 : decode cX3_reasonOf 112 = .ok (.ifCond .eq 27, 3) := by decide +kernel
theorem dX3_reasonOf_115 : decode cX3_reasonOf 115 = .ok (.aload_n 0, 1) := by decide +kernel
theorem dX3_reasonOf_116 : decode cX3_reasonOf 116 = .ok (.getfield 13, 3) := by decide +kernel
theorem dX3_reasonOf_119 : decode cX3_reasonOf 119 = .ok (.iload_n 1, 1) := by decide +kernel
theorem dX3_reasonOf_120 : decode cX3_reasonOf 120 = .ok (.iaload, 1) := by decide +kernel
theorem dX3_reasonOf_121 : decode cX3_reasonOf 121 = .ok (.aload_n 0, 1) := by decide +kernel
theorem dX3_reasonOf_122 : decode cX3_reasonOf 122 = .ok (.getfield 47, 3) := by decide +kernel
theorem dX3_reasonOf_125 : decode cX3_reasonOf 125 = .ok (.iload_n 2, 1) := by decide +kernel
theorem dX3_reasonOf_126 : decode cX3_reasonOf 126 = .ok (.iaload, 1) := by decide +kernel
theorem dX3_reasonOf_127 : decode cX3_reasonOf 127 = .ok (.if_icmp .le 17, 3) := by decide +kernel
theorem dX3_reasonOf_130 : decode cX3_reasonOf 130 = .ok (.aload_n 0, 1) := by decide +kernel
theorem dX3_reasonOf_131 : decode cX3_reasonOf 131 = .ok (.getfield 38, 3) := by decide +kernel
theorem dX3_reasonOf_134 : decode cX3_reasonOf 134 = .ok (.iload_n 2, 1) := by decide +kernel
theorem dX3_reasonOf_135 : decode cX3_reasonOf 135 = .ok (.baload, 1) := by decide +kernel
theorem dX3_reasonOf_136 : decode cX3_reasonOf 136 = .ok (.ifCond .ne 8, 3) := by decide +kernel
theorem dX3_reasonOf_139 : decode cX3_reasonOf 139 = .ok (.bipush 118, 2) := by decide +kernel
theorem dX3_reasonOf_141 : decode cX3_reasonOf 141 = .ok (.goto 5, 3) := by decide +kernel
theorem dX3_reasonOf_144 : decode cX3_reasonOf 144 = .ok (.bipush 45, 2) := by decide +kernel
theorem dX3_reasonOf_146 : decode cX3_reasonOf 146 = .ok (.ireturn, 1) := by decide +kernel
theorem dX3_fits_0 : decode cX3_fits 0 = .ok (.aload_n 0, 1) := by decide +kernel
theorem dX3_fits_1 : decode cX3_fits 1 = .ok (.iload_n 1, 1) := by decide +kernel
theorem dX3_fits_2 : decode cX3_fits 2 = .ok (.iload_n 2, 1) := by decide +kernel
theorem dX3_fits_3 : decode cX3_fits 3 = .ok (.invokevirtual 113, 3) := by decide +kernel
theorem dX3_fits_6 : decode cX3_fits 6 = .ok (.bipush 45, 2) := by decide +kernel
theorem dX3_fits_8 : decode cX3_fits 8 = .ok (.if_icmp .ne 7, 3) := by decide +kernel
theorem dX3_fits_11 : decode cX3_fits 11 = .ok (.iconst 1, 1) := by decide +kernel
theorem dX3_fits_12 : decode cX3_fits 12 = .ok (.goto 4, 3) := by decide +kernel
theorem dX3_fits_15 : decode cX3_fits 15 = .ok (.iconst 0, 1) := by decide +kernel
theorem dX3_fits_16 : decode cX3_fits 16 = .ok (.ireturn, 1) := by decide +kernel
theorem dX3_why_0 : decode cX3_why 0 = .ok (.aload_n 0, 1) := by decide +kernel
theorem dX3_why_1 : decode cX3_why 1 = .ok (.iload_n 1, 1) := by decide +kernel
theorem dX3_why_2 : decode cX3_why 2 = .ok (.invokevirtual 103, 3) := by decide +kernel
theorem dX3_why_5 : decode cX3_why 5 = .ok (.ifCond .ne 11, 3) := by decide +kernel
theorem dX3_why_8 : decode cX3_why 8 = .ok (.aload_n 0, 1) := by decide +kernel
theorem dX3_why_9 : decode cX3_why 9 = .ok (.iload_n 2, 1) := by decide +kernel
theorem dX3_why_10 : decode cX3_why 10 = .ok (.invokevirtual 106, 3) := by decide +kernel
theorem dX3_why_13 : decode cX3_why 13 = .ok (.ifCond .eq 8, 3) := by decide +kernel
theorem dX3_why_16 : decode cX3_why 16 = .ok (.bipush 112, 2) := by decide +kernel
theorem dX3_why_18 : decode cX3_why 18 = .ok (.goto 9, 3) := by decide +kernel
theorem dX3_why_21 : decode cX3_why 21 = .ok (.aload_n 0, 1) := by decide +kernel
theorem dX3_why_22 : decode cX3_why 22 = .ok (.iload_n 1, 1) := by decide +kernel
theorem dX3_why_23 : decode cX3_why 23 = .ok (.iload_n 2, 1) := by decide +kernel
theorem dX3_why_24 : decode cX3_why 24 = .ok (.invokevirtual 113, 3) := by decide +kernel
theorem dX3_why_27 : decode cX3_why 27 = .ok (.ireturn, 1) := by decide +kernel
theorem dX3_fits__0 : decode cX3_fits_ 0 = .ok (.iconst 0, 1) := by decide +kernel
theorem dX3_fits__1 : decode cX3_fits_ 1 = .ok (.istore_n 2, 1) := by decide +kernel
theorem dX3_fits__2 : decode cX3_fits_ 2 = .ok (.iconst 0, 1) := by decide +kernel
theorem dX3_fits__3 : decode cX3_fits_ 3 = .ok (.istore_n 3, 1) := by decide +kernel
theorem dX3_fits__4 : decode cX3_fits_ 4 = .ok (.iload_n 3, 1) := by decide +kernel
theorem dX3_fits__5 : decode cX3_fits_ 5 = .ok (.aload_n 0, 1) := by decide +kernel
theorem dX3_fits__6 : decode cX3_fits_ 6 = .ok (.getfield 86, 3) := by decide +kernel
theorem dX3_fits__9 : decode cX3_fits_ 9 = .ok (.if_icmp .ge 26, 3) := by decide +kernel
theorem dX3_fits__12 : decode cX3_fits_ 12 = .ok (.iload_n 2, 1) := by decide +kernel
theorem dX3_fits__13 : decode cX3_fits_ 13 = .ok (.aload_n 0, 1) := by decide +kernel
theorem dX3_fits__14 : decode cX3_fits_ 14 = .ok (.iload_n 1, 1) := by decide +kernel
theorem dX3_fits__15 : decode cX3_fits_ 15 = .ok (.iload_n 3, 1) := by decide +kernel
theorem dX3_fits__16 : decode cX3_fits_ 16 = .ok (.invokevirtual 117, 3) := by decide +kernel
theorem dX3_fits__19 : decode cX3_fits_ 19 = .ok (.ifCond .eq 7, 3) := by decide +kernel
theorem dX3_fits__22 : decode cX3_fits_ 22 = .ok (.iconst 1, 1) := by decide +kernel
theorem dX3_fits__23 : decode cX3_fits_ 23 = .ok (.goto 4, 3) := by decide +kernel
theorem dX3_fits__26 : decode cX3_fits_ 26 = .ok (.iconst 0, 1) := by decide +kernel
theorem dX3_fits__27 : decode cX3_fits_ 27 = .ok (.iadd, 1) := by decide +kernel
theorem dX3_fits__28 : decode cX3_fits_ 28 = .ok (.istore_n 2, 1) := by decide +kernel
theorem dX3_fits__29 : decode cX3_fits_ 29 = .ok (.iinc 3 1, 3) := by decide +kernel
theorem dX3_fits__32 : decode cX3_fits_ 32 = .ok (.goto (-28), 3) := by decide +kernel
theorem dX3_fits__35 : decode cX3_fits_ 35 = .ok (.iload_n 2, 1) := by decide +kernel
theorem dX3_fits__36 : decode cX3_fits_ 36 = .ok (.ireturn, 1) := by decide +kernel
theorem dX3_fitting_0 : decode cX3_fitting 0 = .ok (.aload_n 0, 1) := by decide +kernel
theorem dX3_fitting_1 : decode cX3_fitting 1 = .ok (.iload_n 1, 1) := by decide +kernel
theorem dX3_fitting_2 : decode cX3_fitting 2 = .ok (.invokevirtual 103, 3) := by decide +kernel
theorem dX3_fitting_5 : decode cX3_fitting 5 = .ok (.ifCond .eq 7, 3) := by decide +kernel
theorem dX3_fitting_8 : decode cX3_fitting 8 = .ok (.iconst 0, 1) := by decide +kernel
theorem dX3_fitting_9 : decode cX3_fitting 9 = .ok (.goto 8, 3) := by decide +kernel
theorem dX3_fitting_12 : decode cX3_fitting 12 = .ok (.aload_n 0, 1) := by decide +kernel
theorem dX3_fitting_13 : decode cX3_fitting 13 = .ok (.iload_n 1, 1) := by decide +kernel
theorem dX3_fitting_14 : decode cX3_fitting 14 = .ok (.invokevirtual 120, 3) := by decide +kernel
theorem dX3_fitting_17 : decode cX3_fitting 17 = .ok (.ireturn, 1) := by decide +kernel
theorem dX3_firstFitting_0 : decode cX3_firstFitting 0 = .ok (.aload_n 0, 1) := by decide +kernel
theorem dX3_firstFitting_1 : decode cX3_firstFitting 1 = .ok (.iload_n 1, 1) := by decide +kernel
theorem dX3_firstFitting_2 : decode cX3_firstFitting 2 = .ok (.invokevirtual 103, 3) := by decide +kernel
theorem dX3_firstFitting_5 : decode cX3_firstFitting 5 = .ok (.ifCond .eq 5, 3) := by decide +kernel
theorem dX3_firstFitting_8 : decode cX3_firstFitting 8 = .ok (.iconst 0, 1) := by decide +kernel
theorem dX3_firstFitting_9 : decode cX3_firstFitting 9 = .ok (.ireturn, 1) := by decide +kernel
theorem dX3_firstFitting_10 : decode cX3_firstFitting 10 = .ok (.iconst 0, 1) := by decide +kernel
theorem dX3_firstFitting_11 : decode cX3_firstFitting 11 = .ok (.istore_n 2, 1) := by decide +kernel
theorem dX3_firstFitting_12 : decode cX3_firstFitting 12 = .ok (.iload_n 2, 1) := by decide +kernel
theorem dX3_firstFitting_13 : decode cX3_firstFitting 13 = .ok (.aload_n 0, 1) := by decide +kernel
theorem dX3_firstFitting_14 : decode cX3_firstFitting 14 = .ok (.getfield 86, 3) := by decide +kernel
theorem dX3_firstFitting_17 : decode cX3_firstFitting 17 = .ok (.if_icmp .ge 20, 3) := by decide +kernel
theorem dX3_firstFitting_20 : decode cX3_firstFitting 20 = .ok (.aload_n 0, 1) := by decide +kernel
theorem dX3_firstFitting_21 : decode cX3_firstFitting 21 = .ok (.iload_n 1, 1) := by decide +kernel
theorem dX3_firstFitting_22 : decode cX3_firstFitting 22 = .ok (.iload_n 2, 1) := by decide +kernel
theorem dX3_firstFitting_23 : decode cX3_firstFitting 23 = .ok (.invokevirtual 117, 3) := by decide +kernel
theorem dX3_firstFitting_26 : decode cX3_firstFitting 26 = .ok (.ifCond .eq 5, 3) := by decide +kernel
theorem dX3_firstFitting_29 : decode cX3_firstFitting 29 = .ok (.iload_n 2, 1) := by decide +kernel
theorem dX3_firstFitting_30 : decode cX3_firstFitting 30 = .ok (.ireturn, 1) := by decide +kernel
theorem dX3_firstFitting_31 : decode cX3_firstFitting 31 = .ok (.iinc 2 1, 3) := by decide +kernel
theorem dX3_firstFitting_34 : decode cX3_firstFitting 34 = .ok (.goto (-22), 3) := by decide +kernel
theorem dX3_firstFitting_37 : decode cX3_firstFitting 37 = .ok (.aload_n 0, 1) := by decide +kernel
theorem dX3_firstFitting_38 : decode cX3_firstFitting 38 = .ok (.iconst 2, 1) := by decide +kernel
theorem dX3_firstFitting_39 : decode cX3_firstFitting 39 = .ok (.invokevirtual 93, 3) := by decide +kernel
theorem dX3_firstFitting_42 : decode cX3_firstFitting 42 = .ok (.ireturn, 1) := by decide +kernel
theorem dX3_greatest_0 : decode cX3_greatest 0 = .ok (.iconst 0, 1) := by decide +kernel
theorem dX3_greatest_1 : decode cX3_greatest 1 = .ok (.istore 4, 2) := by decide +kernel
theorem dX3_greatest_3 : decode cX3_greatest 3 = .ok (.iload 4, 2) := by decide +kernel
theorem dX3_greatest_5 : decode cX3_greatest 5 = .ok (.iconst 4, 1) := by decide +kernel
theorem dX3_greatest_6 : decode cX3_greatest 6 = .ok (.if_icmp .ge 17, 3) := by decide +kernel
theorem dX3_greatest_9 : decode cX3_greatest 9 = .ok (.aload_n 0, 1) := by decide +kernel
theorem dX3_greatest_10 : decode cX3_greatest 10 = .ok (.getfield 75, 3) := by decide +kernel
theorem dX3_greatest_13 : decode cX3_greatest 13 = .ok (.iload 4, 2) := by decide +kernel
theorem dX3_greatest_15 : decode cX3_greatest 15 = .ok (.iconst 0, 1) := by decide +kernel
theorem dX3_greatest_16 : decode cX3_greatest 16 = .ok (.iastore, 1) := by decide +kernel
theorem dX3_greatest_17 : decode cX3_greatest 17 = .ok (.iinc 4 1, 3) := by decide +kernel
theorem dX3_greatest_20 : decode cX3_greatest 20 = .ok (.goto (-17), 3) := by decide +kernel
theorem dX3_greatest_23 : decode cX3_greatest 23 = .ok (.iconst 0, 1) := by decide +kernel
theorem dX3_greatest_24 : decode cX3_greatest 24 = .ok (.istore 4, 2) := by decide +kernel
theorem dX3_greatest_26 : decode cX3_greatest 26 = .ok (.iload 4, 2) := by decide +kernel
theorem dX3_greatest_28 : decode cX3_greatest 28 = .ok (.aload_n 0, 1) := by decide +kernel
theorem dX3_greatest_29 : decode cX3_greatest 29 = .ok (.getfield 100, 3) := by decide +kernel
theorem dX3_greatest_32 : decode cX3_greatest 32 = .ok (.if_icmp .ge 71, 3) := by decide +kernel
theorem dX3_greatest_35 : decode cX3_greatest 35 = .ok (.aload_n 0, 1) := by decide +kernel
theorem dX3_greatest_36 : decode cX3_greatest 36 = .ok (.getfield 31, 3) := by decide +kernel
theorem dX3_greatest_39 : decode cX3_greatest 39 = .ok (.iload 4, 2) := by decide +kernel
theorem dX3_greatest_41 : decode cX3_greatest 41 = .ok (.baload, 1) := by decide +kernel
theorem dX3_greatest_42 : decode cX3_greatest 42 = .ok (.ifCond .ne 55, 3) := by decide +kernel
theorem dX3_greatest_45 : decode cX3_greatest 45 = .ok (.aload_n 0, 1) := by decide +kernel
theorem dX3_greatest_46 : decode cX3_greatest 46 = .ok (.getfield 69, 3) := by decide +kernel
theorem dX3_greatest_49 : decode cX3_greatest 49 = .ok (.iload 4, 2) := by decide +kernel
theorem dX3_greatest_51 : decode cX3_greatest 51 = .ok (.iaload, 1) := by decide +kernel
theorem dX3_greatest_52 : decode cX3_greatest 52 = .ok (.iload_n 1, 1) := by decide +kernel
theorem dX3_greatest_53 : decode cX3_greatest 53 = .ok (.if_icmp .ne 44, 3) := by decide +kernel
theorem dX3_greatest_56 : decode cX3_greatest 56 = .ok (.iload_n 3, 1) := by decide +kernel
theorem dX3_greatest_57 : decode cX3_greatest 57 = .ok (.ifCond .eq 13, 3) := by decide +kernel
theorem dX3_greatest_60 : decode cX3_greatest 60 = .ok (.aload_n 0, 1) := by decide +kernel
theorem dX3_greatest_61 : decode cX3_greatest 61 = .ok (.getfield 22, 3) := by decide +kernel
theorem dX3_greatest_64 : decode cX3_greatest 64 = .ok (.iload 4, 2) := by decide +kernel
theorem dX3_greatest_66 : decode cX3_greatest 66 = .ok (.iaload, 1) := by decide +kernel
theorem dX3_greatest_67 : decode cX3_greatest 67 = .ok (.goto 10, 3) := by decide +kernel
theorem dX3_greatest_70 : decode cX3_greatest 70 = .ok (.aload_n 0, 1) := by decide +kernel
theorem dX3_greatest_71 : decode cX3_greatest 71 = .ok (.getfield 19, 3) := by decide +kernel
theorem dX3_greatest_74 : decode cX3_greatest 74 = .ok (.iload 4, 2) := by decide +kernel
theorem dX3_greatest_76 : decode cX3_greatest 76 = .ok (.iaload, 1) := by decide +kernel
theorem dX3_greatest_77 : decode cX3_greatest 77 = .ok (.iload_n 2, 1) := by decide +kernel
theorem dX3_greatest_78 : decode cX3_greatest 78 = .ok (.if_icmp .ne 19, 3) := by decide +kernel
theorem dX3_greatest_81 : decode cX3_greatest 81 = .ok (.aload_n 0, 1) := by decide +kernel
theorem dX3_greatest_82 : decode cX3_greatest 82 = .ok (.getfield 75, 3) := by decide +kernel
theorem dX3_greatest_85 : decode cX3_greatest 85 = .ok (.aload_n 0, 1) := by decide +kernel
theorem dX3_greatest_86 : decode cX3_greatest 86 = .ok (.getfield 7, 3) := by decide +kernel
theorem dX3_greatest_89 : decode cX3_greatest 89 = .ok (.iload 4, 2) := by decide +kernel
theorem dX3_greatest_91 : decode cX3_greatest 91 = .ok (.iaload, 1) := by decide +kernel
theorem dX3_greatest_92 : decode cX3_greatest 92 = .ok (.dup2, 1) := by decide +kernel
theorem dX3_greatest_93 : decode cX3_greatest 93 = .ok (.iaload, 1) := by decide +kernel
theorem dX3_greatest_94 : decode cX3_greatest 94 = .ok (.iconst 1, 1) := by decide +kernel
theorem dX3_greatest_95 : decode cX3_greatest 95 = .ok (.iadd, 1) := by decide +kernel
theorem dX3_greatest_96 : decode cX3_greatest 96 = .ok (.iastore, 1) := by decide +kernel
theorem dX3_greatest_97 : decode cX3_greatest 97 = .ok (.iinc 4 1, 3) := by decide +kernel
theorem dX3_greatest_100 : decode cX3_greatest 100 = .ok (.goto (-74), 3) := by decide +kernel
theorem dX3_greatest_103 : decode cX3_greatest 103 = .ok (.iconst 0, 1) := by decide +kernel
theorem dX3_greatest_104 : decode cX3_greatest 104 = .ok (.istore 4, 2) := by decide +kernel
theorem dX3_greatest_106 : decode cX3_greatest 106 = .ok (.iconst 0, 1) := by decide +kernel
theorem dX3_greatest_107 : decode cX3_greatest 107 = .ok (.istore 5, 2) := by decide +kernel
theorem dX3_greatest_109 : decode cX3_greatest 109 = .ok (.iload 5, 2) := by decide +kernel
theorem dX3_greatest_111 : decode cX3_greatest 111 = .ok (.iconst 4, 1) := by decide +kernel
theorem dX3_greatest_112 : decode cX3_greatest 112 = .ok (.if_icmp .ge 30, 3) := by decide +kernel
theorem dX3_greatest_115 : decode cX3_greatest 115 = .ok (.aload_n 0, 1) := by decide +kernel
theorem dX3_greatest_116 : decode cX3_greatest 116 = .ok (.getfield 75, 3) := by decide +kernel
theorem dX3_greatest_119 : decode cX3_greatest 119 = .ok (.iload 5, 2) := by decide +kernel
theorem dX3_greatest_121 : decode cX3_greatest 121 = .ok (.iaload, 1) := by decide +kernel
theorem dX3_greatest_122 : decode cX3_greatest 122 = .ok (.iload 4, 2) := by decide +kernel
theorem dX3_greatest_124 : decode cX3_greatest 124 = .ok (.if_icmp .le 12, 3) := by decide +kernel
theorem dX3_greatest_127 : decode cX3_greatest 127 = .ok (.aload_n 0, 1) := by decide +kernel
theorem dX3_greatest_128 : decode cX3_greatest 128 = .ok (.getfield 75, 3) := by decide +kernel
theorem dX3_greatest_131 : decode cX3_greatest 131 = .ok (.iload 5, 2) := by decide +kernel
theorem dX3_greatest_133 : decode cX3_greatest 133 = .ok (.iaload, 1) := by decide +kernel
theorem dX3_greatest_134 : decode cX3_greatest 134 = .ok (.istore 4, 2) := by decide +kernel
theorem dX3_greatest_136 : decode cX3_greatest 136 = .ok (.iinc 5 1, 3) := by decide +kernel
theorem dX3_greatest_139 : decode cX3_greatest 139 = .ok (.goto (-30), 3) := by decide +kernel
theorem dX3_greatest_142 : decode cX3_greatest 142 = .ok (.iload 4, 2) := by decide +kernel
theorem dX3_greatest_144 : decode cX3_greatest 144 = .ok (.ireturn, 1) := by decide +kernel
theorem dX3_needs_0 : decode cX3_needs 0 = .ok (.iconst 0, 1) := by decide +kernel
theorem dX3_needs_1 : decode cX3_needs 1 = .ok (.istore_n 2, 1) := by decide +kernel
theorem dX3_needs_2 : decode cX3_needs 2 = .ok (.aload_n 0, 1) := by decide +kernel
theorem dX3_needs_3 : decode cX3_needs 3 = .ok (.getfield 65, 3) := by decide +kernel
theorem dX3_needs_6 : decode cX3_needs 6 = .ok (.iload_n 1, 1) := by decide +kernel
theorem dX3_needs_7 : decode cX3_needs 7 = .ok (.caload, 1) := by decide +kernel
theorem dX3_needs_8 : decode cX3_needs 8 = .ok (.bipush 99, 2) := by decide +kernel
theorem dX3_needs_10 : decode cX3_needs 10 = .ok (.if_icmp .ne 73, 3) := by decide +kernel
theorem dX3_needs_13 : decode cX3_needs 13 = .ok (.iconst 0, 1) := by decide +kernel
theorem dX3_needs_14 : decode cX3_needs 14 = .ok (.istore_n 3, 1) := by decide +kernel
theorem dX3_needs_15 : decode cX3_needs 15 = .ok (.iload_n 3, 1) := by decide +kernel
theorem dX3_needs_16 : decode cX3_needs 16 = .ok (.aload_n 0, 1) := by decide +kernel
theorem dX3_needs_17 : decode cX3_needs 17 = .ok (.getfield 100, 3) := by decide +kernel
theorem dX3_needs_20 : decode cX3_needs 20 = .ok (.if_icmp .ge 61, 3) := by decide +kernel
theorem dX3_needs_23 : decode cX3_needs 23 = .ok (.aload_n 0, 1) := by decide +kernel
theorem dX3_needs_24 : decode cX3_needs 24 = .ok (.getfield 31, 3) := by decide +kernel
theorem dX3_needs_27 : decode cX3_needs 27 = .ok (.iload_n 3, 1) := by decide +kernel
theorem dX3_needs_28 : decode cX3_needs 28 = .ok (.baload, 1) := by decide +kernel
theorem dX3_needs_29 : decode cX3_needs 29 = .ok (.ifCond .ne 46, 3) := by decide +kernel
theorem dX3_needs_32 : decode cX3_needs 32 = .ok (.aload_n 0, 1) := by decide +kernel
theorem dX3_needs_33 : decode cX3_needs 33 = .ok (.getfield 69, 3) := by decide +kernel
theorem dX3_needs_36 : decode cX3_needs 36 = .ok (.iload_n 3, 1) := by decide +kernel
theorem dX3_needs_37 : decode cX3_needs 37 = .ok (.iaload, 1) := by decide +kernel
theorem dX3_needs_38 : decode cX3_needs 38 = .ok (.iload_n 1, 1) := by decide +kernel
theorem dX3_needs_39 : decode cX3_needs 39 = .ok (.if_icmp .ne 36, 3) := by decide +kernel
theorem dX3_needs_42 : decode cX3_needs 42 = .ok (.iload_n 2, 1) := by decide +kernel
theorem dX3_needs_43 : decode cX3_needs 43 = .ok (.aload_n 0, 1) := by decide +kernel
theorem dX3_needs_44 : decode cX3_needs 44 = .ok (.getfield 25, 3) := by decide +kernel
theorem dX3_needs_47 : decode cX3_needs 47 = .ok (.iload_n 3, 1) := by decide +kernel
theorem dX3_needs_48 : decode cX3_needs 48 = .ok (.iaload, 1) := by decide +kernel
theorem dX3_needs_49 : decode cX3_needs 49 = .ok (.aload_n 0, 1) := by decide +kernel
theorem dX3_needs_50 : decode cX3_needs 50 = .ok (.getfield 59, 3) := by decide +kernel
theorem dX3_needs_53 : decode cX3_needs 53 = .ok (.iload_n 1, 1) := by decide +kernel
theorem dX3_needs_54 : decode cX3_needs 54 = .ok (.iaload, 1) := by decide +kernel
theorem dX3_needs_55 : decode cX3_needs 55 = .ok (.if_icmp .le 12, 3) := by decide +kernel
theorem dX3_needs_58 : decode cX3_needs 58 = .ok (.aload_n 0, 1) := by decide +kernel
theorem dX3_needs_59 : decode cX3_needs 59 = .ok (.getfield 25, 3) := by decide +kernel
theorem dX3_needs_62 : decode cX3_needs 62 = .ok (.iload_n 3, 1) := by decide +kernel
theorem dX3_needs_63 : decode cX3_needs 63 = .ok (.iaload, 1) := by decide +kernel
theorem dX3_needs_64 : decode cX3_needs 64 = .ok (.goto 9, 3) := by decide +kernel
theorem dX3_needs_67 : decode cX3_needs 67 = .ok (.aload_n 0, 1) := by decide +kernel
theorem dX3_needs_68 : decode cX3_needs 68 = .ok (.getfield 59, 3) := by decide +kernel
theorem dX3_needs_71 : decode cX3_needs 71 = .ok (.iload_n 1, 1) := by decide +kernel
theorem dX3_needs_72 : decode cX3_needs 72 = .ok (.iaload, 1) := by decide +kernel
theorem dX3_needs_73 : decode cX3_needs 73 = .ok (.iadd, 1) := by decide +kernel
theorem dX3_needs_74 : decode cX3_needs 74 = .ok (.istore_n 2, 1) := by decide +kernel
theorem dX3_needs_75 : decode cX3_needs 75 = .ok (.iinc 3 1, 3) := by decide +kernel
theorem dX3_needs_78 : decode cX3_needs 78 = .ok (.goto (-63), 3) := by decide +kernel
theorem dX3_needs_81 : decode cX3_needs 81 = .ok (.iload_n 2, 1) := by decide +kernel
theorem dX3_needs_82 : decode cX3_needs 82 = .ok (.ireturn, 1) := by decide +kernel
theorem dX3_needs_83 : decode cX3_needs 83 = .ok (.iconst 0, 1) := by decide +kernel
theorem dX3_needs_84 : decode cX3_needs 84 = .ok (.istore_n 3, 1) := by decide +kernel
theorem dX3_needs_85 : decode cX3_needs 85 = .ok (.iload_n 3, 1) := by decide +kernel
theorem dX3_needs_86 : decode cX3_needs 86 = .ok (.bipush 10, 2) := by decide +kernel
theorem dX3_needs_88 : decode cX3_needs 88 = .ok (.if_icmp .ge 67, 3) := by decide +kernel
theorem dX3_needs_91 : decode cX3_needs 91 = .ok (.aload_n 0, 1) := by decide +kernel
theorem dX3_needs_92 : decode cX3_needs 92 = .ok (.iload_n 1, 1) := by decide +kernel
theorem dX3_needs_93 : decode cX3_needs 93 = .ok (.iload_n 3, 1) := by decide +kernel
theorem dX3_needs_94 : decode cX3_needs 94 = .ok (.aload_n 0, 1) := by decide +kernel
theorem dX3_needs_95 : decode cX3_needs 95 = .ok (.getfield 65, 3) := by decide +kernel
theorem dX3_needs_98 : decode cX3_needs 98 = .ok (.iload_n 1, 1) := by decide +kernel
theorem dX3_needs_99 : decode cX3_needs 99 = .ok (.caload, 1) := by decide +kernel
theorem dX3_needs_100 : decode cX3_needs 100 = .ok (.bipush 117, 2) := by decide +kernel
theorem dX3_needs_102 : decode cX3_needs 102 = .ok (.if_icmp .ne 7, 3) := by decide +kernel
theorem dX3_needs_105 : decode cX3_needs 105 = .ok (.iconst 1, 1) := by decide +kernel
theorem dX3_needs_106 : decode cX3_needs 106 = .ok (.goto 4, 3) := by decide +kernel
theorem dX3_needs_109 : decode cX3_needs 109 = .ok (.iconst 0, 1) := by decide +kernel
theorem dX3_needs_110 : decode cX3_needs 110 = .ok (.invokevirtual 122, 3) := by decide +kernel
theorem dX3_needs_113 : decode cX3_needs 113 = .ok (.istore 4, 2) := by decide +kernel
theorem dX3_needs_115 : decode cX3_needs 115 = .ok (.iload_n 2, 1) := by decide +kernel
theorem dX3_needs_116 : decode cX3_needs 116 = .ok (.aload_n 0, 1) := by decide +kernel
theorem dX3_needs_117 : decode cX3_needs 117 = .ok (.getfield 65, 3) := by decide +kernel
theorem dX3_needs_120 : decode cX3_needs 120 = .ok (.iload_n 1, 1) := by decide +kernel
theorem dX3_needs_121 : decode cX3_needs 121 = .ok (.caload, 1) := by decide +kernel
theorem dX3_needs_122 : decode cX3_needs 122 = .ok (.bipush 117, 2) := by decide +kernel
theorem dX3_needs_124 : decode cX3_needs 124 = .ok (.if_icmp .ne 21, 3) := by decide +kernel
theorem dX3_needs_127 : decode cX3_needs 127 = .ok (.aload_n 0, 1) := by decide +kernel
theorem dX3_needs_128 : decode cX3_needs 128 = .ok (.getfield 41, 3) := by decide +kernel
theorem dX3_needs_131 : decode cX3_needs 131 = .ok (.iload_n 1, 1) := by decide +kernel
theorem dX3_needs_132 : decode cX3_needs 132 = .ok (.baload, 1) := by decide +kernel
theorem dX3_needs_133 : decode cX3_needs 133 = .ok (.ifCond .eq 12, 3) := by decide +kernel
theorem dX3_needs_136 : decode cX3_needs 136 = .ok (.iload 4, 2) := by decide +kernel
theorem dX3_needs_138 : decode cX3_needs 138 = .ok (.iconst 1, 1) := by decide +kernel
theorem dX3_needs_139 : decode cX3_needs 139 = .ok (.iadd, 1) := by decide +kernel
theorem dX3_needs_140 : decode cX3_needs 140 = .ok (.iconst 2, 1) := by decide +kernel
theorem dX3_needs_141 : decode cX3_needs 141 = .ok (.idiv, 1) := by decide +kernel
theorem dX3_needs_142 : decode cX3_needs 142 = .ok (.goto 5, 3) := by decide +kernel
theorem dX3_needs_145 : decode cX3_needs 145 = .ok (.iload 4, 2) := by decide +kernel
theorem dX3_needs_147 : decode cX3_needs 147 = .ok (.iadd, 1) := by decide +kernel
theorem dX3_needs_148 : decode cX3_needs 148 = .ok (.istore_n 2, 1) := by decide +kernel
theorem dX3_needs_149 : decode cX3_needs 149 = .ok (.iinc 3 1, 3) := by decide +kernel
theorem dX3_needs_152 : decode cX3_needs 152 = .ok (.goto (-67), 3) := by decide +kernel
theorem dX3_needs_155 : decode cX3_needs 155 = .ok (.iload_n 2, 1) := by decide +kernel
theorem dX3_needs_156 : decode cX3_needs 156 = .ok (.ireturn, 1) := by decide +kernel
theorem dX3_unitsForAll_0 : decode cX3_unitsForAll 0 = .ok (.aload_n 0, 1) := by decide +kernel
theorem dX3_unitsForAll_1 : decode cX3_unitsForAll 1 = .ok (.iload_n 1, 1) := by decide +kernel
theorem dX3_unitsForAll_2 : decode cX3_unitsForAll 2 = .ok (.invokevirtual 106, 3) := by decide +kernel
theorem dX3_unitsForAll_5 : decode cX3_unitsForAll 5 = .ok (.ifCond .eq 5, 3) := by decide +kernel
theorem dX3_unitsForAll_8 : decode cX3_unitsForAll 8 = .ok (.iconst 0, 1) := by decide +kernel
theorem dX3_unitsForAll_9 : decode cX3_unitsForAll 9 = .ok (.ireturn, 1) := by decide +kernel
theorem dX3_unitsForAll_10 : decode cX3_unitsForAll 10 = .ok (.iconst 0, 1) := by decide +kernel
theorem dX3_unitsForAll_11 : decode cX3_unitsForAll 11 = .ok (.istore_n 2, 1) := by decide +kernel
theorem dX3_unitsForAll_12 : decode cX3_unitsForAll 12 = .ok (.iload_n 2, 1) := by decide +kernel
theorem dX3_unitsForAll_13 : decode cX3_unitsForAll 13 = .ok (.aload_n 0, 1) := by decide +kernel
theorem dX3_unitsForAll_14 : decode cX3_unitsForAll 14 = .ok (.getfield 100, 3) := by decide +kernel
theorem dX3_unitsForAll_17 : decode cX3_unitsForAll 17 = .ok (.if_icmp .ge 29, 3) := by decide +kernel
theorem dX3_unitsForAll_20 : decode cX3_unitsForAll 20 = .ok (.aload_n 0, 1) := by decide +kernel
theorem dX3_unitsForAll_21 : decode cX3_unitsForAll 21 = .ok (.getfield 69, 3) := by decide +kernel
theorem dX3_unitsForAll_24 : decode cX3_unitsForAll 24 = .ok (.iload_n 2, 1) := by decide +kernel
theorem dX3_unitsForAll_25 : decode cX3_unitsForAll 25 = .ok (.aload_n 0, 1) := by decide +kernel
theorem dX3_unitsForAll_26 : decode cX3_unitsForAll 26 = .ok (.iload_n 2, 1) := by decide +kernel
theorem dX3_unitsForAll_27 : decode cX3_unitsForAll 27 = .ok (.iload_n 1, 1) := by decide +kernel
theorem dX3_unitsForAll_28 : decode cX3_unitsForAll 28 = .ok (.invokevirtual 117, 3) := by decide +kernel
theorem dX3_unitsForAll_31 : decode cX3_unitsForAll 31 = .ok (.ifCond .eq 7, 3) := by decide +kernel
theorem dX3_unitsForAll_34 : decode cX3_unitsForAll 34 = .ok (.iload_n 1, 1) := by decide +kernel
theorem dX3_unitsForAll_35 : decode cX3_unitsForAll 35 = .ok (.goto 4, 3) := by decide +kernel
theorem dX3_unitsForAll_38 : decode cX3_unitsForAll 38 = .ok (.iconst (-1), 1) := by decide +kernel
theorem dX3_unitsForAll_39 : decode cX3_unitsForAll 39 = .ok (.iastore, 1) := by decide +kernel
theorem dX3_unitsForAll_40 : decode cX3_unitsForAll 40 = .ok (.iinc 2 1, 3) := by decide +kernel
theorem dX3_unitsForAll_43 : decode cX3_unitsForAll 43 = .ok (.goto (-31), 3) := by decide +kernel
theorem dX3_unitsForAll_46 : decode cX3_unitsForAll 46 = .ok (.aload_n 0, 1) := by decide +kernel
theorem dX3_unitsForAll_47 : decode cX3_unitsForAll 47 = .ok (.iload_n 1, 1) := by decide +kernel
theorem dX3_unitsForAll_48 : decode cX3_unitsForAll 48 = .ok (.invokevirtual 126, 3) := by decide +kernel
theorem dX3_unitsForAll_51 : decode cX3_unitsForAll 51 = .ok (.ireturn, 1) := by decide +kernel
theorem dX3_take_0 : decode cX3_take 0 = .ok (.iconst 0, 1) := by decide +kernel
theorem dX3_take_1 : decode cX3_take 1 = .ok (.istore_n 1, 1) := by decide +kernel
theorem dX3_take_2 : decode cX3_take 2 = .ok (.iload_n 1, 1) := by decide +kernel
theorem dX3_take_3 : decode cX3_take 3 = .ok (.aload_n 0, 1) := by decide +kernel
theorem dX3_take_4 : decode cX3_take 4 = .ok (.getfield 100, 3) := by decide +kernel
theorem dX3_take_7 : decode cX3_take 7 = .ok (.if_icmp .ge 21, 3) := by decide +kernel
theorem dX3_take_10 : decode cX3_take 10 = .ok (.aload_n 0, 1) := by decide +kernel
theorem dX3_take_11 : decode cX3_take 11 = .ok (.getfield 72, 3) := by decide +kernel
theorem dX3_take_14 : decode cX3_take 14 = .ok (.iload_n 1, 1) := by decide +kernel
theorem dX3_take_15 : decode cX3_take 15 = .ok (.aload_n 0, 1) := by decide +kernel
theorem dX3_take_16 : decode cX3_take 16 = .ok (.getfield 69, 3) := by decide +kernel
theorem dX3_take_19 : decode cX3_take 19 = .ok (.iload_n 1, 1) := by decide +kernel
theorem dX3_take_20 : decode cX3_take 20 = .ok (.iaload, 1) := by decide +kernel
theorem dX3_take_21 : decode cX3_take 21 = .ok (.iastore, 1) := by decide +kernel
theorem dX3_take_22 : decode cX3_take 22 = .ok (.iinc 1 1, 3) := by decide +kernel
theorem dX3_take_25 : decode cX3_take 25 = .ok (.goto (-23), 3) := by decide +kernel
theorem dX3_take_28 : decode cX3_take 28 = .ok (.return_, 1) := by decide +kernel
theorem dX3_put_0 : decode cX3_put 0 = .ok (.iconst 0, 1) := by decide +kernel
theorem dX3_put_1 : decode cX3_put 1 = .ok (.istore_n 1, 1) := by decide +kernel
theorem dX3_put_2 : decode cX3_put 2 = .ok (.iload_n 1, 1) := by decide +kernel
theorem dX3_put_3 : decode cX3_put 3 = .ok (.aload_n 0, 1) := by decide +kernel
theorem dX3_put_4 : decode cX3_put 4 = .ok (.getfield 100, 3) := by decide +kernel
theorem dX3_put_7 : decode cX3_put 7 = .ok (.if_icmp .ge 21, 3) := by decide +kernel
theorem dX3_put_10 : decode cX3_put 10 = .ok (.aload_n 0, 1) := by decide +kernel
theorem dX3_put_11 : decode cX3_put 11 = .ok (.getfield 69, 3) := by decide +kernel
theorem dX3_put_14 : decode cX3_put 14 = .ok (.iload_n 1, 1) := by decide +kernel
theorem dX3_put_15 : decode cX3_put 15 = .ok (.aload_n 0, 1) := by decide +kernel
theorem dX3_put_16 : decode cX3_put 16 = .ok (.getfield 72, 3) := by decide +kernel
theorem dX3_put_19 : decode cX3_put 19 = .ok (.iload_n 1, 1) := by decide +kernel
theorem dX3_put_20 : decode cX3_put 20 = .ok (.iaload, 1) := by decide +kernel
theorem dX3_put_21 : decode cX3_put 21 = .ok (.iastore, 1) := by decide +kernel
theorem dX3_put_22 : decode cX3_put 22 = .ok (.iinc 1 1, 3) := by decide +kernel
theorem dX3_put_25 : decode cX3_put 25 = .ok (.goto (-23), 3) := by decide +kernel
theorem dX3_put_28 : decode cX3_put 28 = .ok (.return_, 1) := by decide +kernel
theorem dX3_begin_0 : decode cX3_begin 0 = .ok (.aload_n 0, 1) := by decide +kernel
theorem dX3_begin_1 : decode cX3_begin 1 = .ok (.iconst (-1), 1) := by decide +kernel
theorem dX3_begin_2 : decode cX3_begin 2 = .ok (.putfield 129, 3) := by decide +kernel
theorem dX3_begin_5 : decode cX3_begin 5 = .ok (.iconst 0, 1) := by decide +kernel
theorem dX3_begin_6 : decode cX3_begin 6 = .ok (.istore_n 1, 1) := by decide +kernel
theorem dX3_begin_7 : decode cX3_begin 7 = .ok (.iload_n 1, 1) := by decide +kernel
theorem dX3_begin_8 : decode cX3_begin 8 = .ok (.aload_n 0, 1) := by decide +kernel
theorem dX3_begin_9 : decode cX3_begin 9 = .ok (.getfield 100, 3) := by decide +kernel
theorem dX3_begin_12 : decode cX3_begin 12 = .ok (.if_icmp .ge 16, 3) := by decide +kernel
theorem dX3_begin_15 : decode cX3_begin 15 = .ok (.aload_n 0, 1) := by decide +kernel
theorem dX3_begin_16 : decode cX3_begin 16 = .ok (.getfield 69, 3) := by decide +kernel
theorem dX3_begin_19 : decode cX3_begin 19 = .ok (.iload_n 1, 1) := by decide +kernel
theorem dX3_begin_20 : decode cX3_begin 20 = .ok (.iconst (-1), 1) := by decide +kernel
theorem dX3_begin_21 : decode cX3_begin 21 = .ok (.iastore, 1) := by decide +kernel
theorem dX3_begin_22 : decode cX3_begin 22 = .ok (.iinc 1 1, 3) := by decide +kernel
theorem dX3_begin_25 : decode cX3_begin 25 = .ok (.goto (-18), 3) := by decide +kernel
theorem dX3_begin_28 : decode cX3_begin 28 = .ok (.return_, 1) := by decide +kernel
theorem dX3_isAllowed_0 : decode cX3_isAllowed 0 = .ok (.aload_n 0, 1) := by decide +kernel
theorem dX3_isAllowed_1 : decode cX3_isAllowed 1 = .ok (.iload_n 1, 1) := by decide +kernel
theorem dX3_isAllowed_2 : decode cX3_isAllowed 2 = .ok (.invokevirtual 126, 3) := by decide +kernel
theorem dX3_isAllowed_5 : decode cX3_isAllowed 5 = .ok (.aload_n 0, 1) := by decide +kernel
theorem dX3_isAllowed_6 : decode cX3_isAllowed 6 = .ok (.getfield 53, 3) := by decide +kernel
theorem dX3_isAllowed_9 : decode cX3_isAllowed 9 = .ok (.iload_n 1, 1) := by decide +kernel
theorem dX3_isAllowed_10 : decode cX3_isAllowed 10 = .ok (.iaload, 1) := by decide +kernel
theorem dX3_isAllowed_11 : decode cX3_isAllowed 11 = .ok (.if_icmp .gt 7, 3) := by decide +kernel
theorem dX3_isAllowed_14 : decode cX3_isAllowed 14 = .ok (.iconst 1, 1) := by decide +kernel
theorem dX3_isAllowed_15 : decode cX3_isAllowed 15 = .ok (.goto 4, 3) := by decide +kernel
theorem dX3_isAllowed_18 : decode cX3_isAllowed 18 = .ok (.iconst 0, 1) := by decide +kernel
theorem dX3_isAllowed_19 : decode cX3_isAllowed 19 = .ok (.ireturn, 1) := by decide +kernel
theorem dX3_covers_0 : decode cX3_covers 0 = .ok (.iload_n 2, 1) := by decide +kernel
theorem dX3_covers_1 : decode cX3_covers 1 = .ok (.iload_n 3, 1) := by decide +kernel
theorem dX3_covers_2 : decode cX3_covers 2 = .ok (.iadd, 1) := by decide +kernel
theorem dX3_covers_3 : decode cX3_covers 3 = .ok (.aload_n 0, 1) := by decide +kernel
theorem dX3_covers_4 : decode cX3_covers 4 = .ok (.getfield 129, 3) := by decide +kernel
theorem dX3_covers_7 : decode cX3_covers 7 = .ok (.if_icmp .gt 4, 3) := by decide +kernel
theorem dX3_covers_10 : decode cX3_covers 10 = .ok (.return_, 1) := by decide +kernel
theorem dX3_covers_11 : decode cX3_covers 11 = .ok (.iload_n 1, 1) := by decide +kernel
theorem dX3_covers_12 : decode cX3_covers 12 = .ok (.aload_n 0, 1) := by decide +kernel
theorem dX3_covers_13 : decode cX3_covers 13 = .ok (.getfield 100, 3) := by decide +kernel
theorem dX3_covers_16 : decode cX3_covers 16 = .ok (.if_icmp .ne 13, 3) := by decide +kernel
theorem dX3_covers_19 : decode cX3_covers 19 = .ok (.aload_n 0, 1) := by decide +kernel
theorem dX3_covers_20 : decode cX3_covers 20 = .ok (.iload_n 2, 1) := by decide +kernel
theorem dX3_covers_21 : decode cX3_covers 21 = .ok (.putfield 129, 3) := by decide +kernel
theorem dX3_covers_24 : decode cX3_covers 24 = .ok (.aload_n 0, 1) := by decide +kernel
theorem dX3_covers_25 : decode cX3_covers 25 = .ok (.invokevirtual 132, 3) := by decide +kernel
theorem dX3_covers_28 : decode cX3_covers 28 = .ok (.return_, 1) := by decide +kernel
theorem dX3_covers_29 : decode cX3_covers 29 = .ok (.aload_n 0, 1) := by decide +kernel
theorem dX3_covers_30 : decode cX3_covers 30 = .ok (.getfield 31, 3) := by decide +kernel
theorem dX3_covers_33 : decode cX3_covers 33 = .ok (.iload_n 1, 1) := by decide +kernel
theorem dX3_covers_34 : decode cX3_covers 34 = .ok (.baload, 1) := by decide +kernel
theorem dX3_covers_35 : decode cX3_covers 35 = .ok (.ifCond .eq 13, 3) := by decide +kernel
theorem dX3_covers_38 : decode cX3_covers 38 = .ok (.aload_n 0, 1) := by decide +kernel
theorem dX3_covers_39 : decode cX3_covers 39 = .ok (.iload_n 1, 1) := by decide +kernel
theorem dX3_covers_40 : decode cX3_covers 40 = .ok (.iconst 1, 1) := by decide +kernel
theorem dX3_covers_41 : decode cX3_covers 41 = .ok (.iadd, 1) := by decide +kernel
theorem dX3_covers_42 : decode cX3_covers 42 = .ok (.iload_n 2, 1) := by decide +kernel
theorem dX3_covers_43 : decode cX3_covers 43 = .ok (.iload_n 3, 1) := by decide +kernel
theorem dX3_covers_44 : decode cX3_covers 44 = .ok (.invokevirtual 135, 3) := by decide +kernel
theorem dX3_covers_47 : decode cX3_covers 47 = .ok (.return_, 1) := by decide +kernel
theorem dX3_covers_48 : decode cX3_covers 48 = .ok (.iconst 0, 1) := by decide +kernel
theorem dX3_covers_49 : decode cX3_covers 49 = .ok (.istore 4, 2) := by decide +kernel
theorem dX3_covers_51 : decode cX3_covers 51 = .ok (.iload 4, 2) := by decide +kernel
theorem dX3_covers_53 : decode cX3_covers 53 = .ok (.aload_n 0, 1) := by decide +kernel
theorem dX3_covers_54 : decode cX3_covers 54 = .ok (.getfield 86, 3) := by decide +kernel
theorem dX3_covers_57 : decode cX3_covers 57 = .ok (.if_icmp .ge 52, 3) := by decide +kernel
theorem dX3_covers_60 : decode cX3_covers 60 = .ok (.aload_n 0, 1) := by decide +kernel
theorem dX3_covers_61 : decode cX3_covers 61 = .ok (.iload_n 1, 1) := by decide +kernel
theorem dX3_covers_62 : decode cX3_covers 62 = .ok (.iload 4, 2) := by decide +kernel
theorem dX3_covers_64 : decode cX3_covers 64 = .ok (.invokevirtual 117, 3) := by decide +kernel
theorem dX3_covers_67 : decode cX3_covers 67 = .ok (.ifCond .ne 6, 3) := by decide +kernel
theorem dX3_covers_70 : decode cX3_covers 70 = .ok (.goto 33, 3) := by decide +kernel
theorem dX3_covers_73 : decode cX3_covers 73 = .ok (.aload_n 0, 1) := by decide +kernel
theorem dX3_covers_74 : decode cX3_covers 74 = .ok (.getfield 69, 3) := by decide +kernel
theorem dX3_covers_77 : decode cX3_covers 77 = .ok (.iload_n 1, 1) := by decide +kernel
theorem dX3_covers_78 : decode cX3_covers 78 = .ok (.iload 4, 2) := by decide +kernel
theorem dX3_covers_80 : decode cX3_covers 80 = .ok (.iastore, 1) := by decide +kernel
theorem dX3_covers_81 : decode cX3_covers 81 = .ok (.aload_n 0, 1) := by decide +kernel
theorem dX3_covers_82 : decode cX3_covers 82 = .ok (.iload 4, 2) := by decide +kernel
theorem dX3_covers_84 : decode cX3_covers 84 = .ok (.invokevirtual 139, 3) := by decide +kernel
theorem dX3_covers_87 : decode cX3_covers 87 = .ok (.ifCond .eq 16, 3) := by decide +kernel
theorem dX3_covers_90 : decode cX3_covers 90 = .ok (.aload_n 0, 1) := by decide +kernel
theorem dX3_covers_91 : decode cX3_covers 91 = .ok (.iload_n 1, 1) := by decide +kernel
theorem dX3_covers_92 : decode cX3_covers 92 = .ok (.iconst 1, 1) := by decide +kernel
theorem dX3_covers_93 : decode cX3_covers 93 = .ok (.iadd, 1) := by decide +kernel
theorem dX3_covers_94 : decode cX3_covers 94 = .ok (.iload_n 2, 1) := by decide +kernel
theorem dX3_covers_95 : decode cX3_covers 95 = .ok (.iconst 1, 1) := by decide +kernel
theorem dX3_covers_96 : decode cX3_covers 96 = .ok (.iadd, 1) := by decide +kernel
theorem dX3_covers_97 : decode cX3_covers 97 = .ok (.iload_n 3, 1) := by decide +kernel
theorem dX3_covers_98 : decode cX3_covers 98 = .ok (.iconst 1, 1) := by decide +kernel
theorem dX3_covers_99 : decode cX3_covers 99 = .ok (.isub, 1) := by decide +kernel
theorem dX3_covers_100 : decode cX3_covers 100 = .ok (.invokevirtual 135, 3) := by decide +kernel
theorem dX3_covers_103 : decode cX3_covers 103 = .ok (.iinc 4 1, 3) := by decide +kernel
theorem dX3_covers_106 : decode cX3_covers 106 = .ok (.goto (-55), 3) := by decide +kernel
theorem dX3_covers_109 : decode cX3_covers 109 = .ok (.aload_n 0, 1) := by decide +kernel
theorem dX3_covers_110 : decode cX3_covers 110 = .ok (.getfield 69, 3) := by decide +kernel
theorem dX3_covers_113 : decode cX3_covers 113 = .ok (.iload_n 1, 1) := by decide +kernel
theorem dX3_covers_114 : decode cX3_covers 114 = .ok (.iconst (-1), 1) := by decide +kernel
theorem dX3_covers_115 : decode cX3_covers 115 = .ok (.iastore, 1) := by decide +kernel
theorem dX3_covers_116 : decode cX3_covers 116 = .ok (.aload_n 0, 1) := by decide +kernel
theorem dX3_covers_117 : decode cX3_covers 117 = .ok (.iload_n 1, 1) := by decide +kernel
theorem dX3_covers_118 : decode cX3_covers 118 = .ok (.iconst 1, 1) := by decide +kernel
theorem dX3_covers_119 : decode cX3_covers 119 = .ok (.iadd, 1) := by decide +kernel
theorem dX3_covers_120 : decode cX3_covers 120 = .ok (.iload_n 2, 1) := by decide +kernel
theorem dX3_covers_121 : decode cX3_covers 121 = .ok (.iload_n 3, 1) := by decide +kernel
theorem dX3_covers_122 : decode cX3_covers 122 = .ok (.iconst 1, 1) := by decide +kernel
theorem dX3_covers_123 : decode cX3_covers 123 = .ok (.isub, 1) := by decide +kernel
theorem dX3_covers_124 : decode cX3_covers 124 = .ok (.invokevirtual 135, 3) := by decide +kernel
theorem dX3_covers_127 : decode cX3_covers 127 = .ok (.return_, 1) := by decide +kernel
theorem dX3_cover_0 : decode cX3_cover 0 = .ok (.aload_n 0, 1) := by decide +kernel
theorem dX3_cover_1 : decode cX3_cover 1 = .ok (.invokevirtual 142, 3) := by decide +kernel
theorem dX3_cover_4 : decode cX3_cover 4 = .ok (.aload_n 0, 1) := by decide +kernel
theorem dX3_cover_5 : decode cX3_cover 5 = .ok (.iconst 0, 1) := by decide +kernel
theorem dX3_cover_6 : decode cX3_cover 6 = .ok (.iconst 0, 1) := by decide +kernel
theorem dX3_cover_7 : decode cX3_cover 7 = .ok (.aload_n 0, 1) := by decide +kernel
theorem dX3_cover_8 : decode cX3_cover 8 = .ok (.getfield 97, 3) := by decide +kernel
theorem dX3_cover_11 : decode cX3_cover 11 = .ok (.invokevirtual 135, 3) := by decide +kernel
theorem dX3_cover_14 : decode cX3_cover 14 = .ok (.aload_n 0, 1) := by decide +kernel
theorem dX3_cover_15 : decode cX3_cover 15 = .ok (.invokevirtual 145, 3) := by decide +kernel
theorem dX3_cover_18 : decode cX3_cover 18 = .ok (.return_, 1) := by decide +kernel
theorem dX3_covered_0 : decode cX3_covered 0 = .ok (.aload_n 0, 1) := by decide +kernel
theorem dX3_covered_1 : decode cX3_covered 1 = .ok (.invokevirtual 148, 3) := by decide +kernel
theorem dX3_covered_4 : decode cX3_covered 4 = .ok (.aload_n 0, 1) := by decide +kernel
theorem dX3_covered_5 : decode cX3_covered 5 = .ok (.getfield 129, 3) := by decide +kernel
theorem dX3_covered_8 : decode cX3_covered 8 = .ok (.ireturn, 1) := by decide +kernel
theorem dX3_coveredByTrying_0 : decode cX3_coveredByTrying 0 = .ok (.aload_n 0, 1) := by decide +kernel
theorem dX3_coveredByTrying_1 : decode cX3_coveredByTrying 1 = .ok (.getfield 97, 3) := by decide +kernel
theorem dX3_coveredByTrying_4 : decode cX3_coveredByTrying 4 = .ok (.iconst 4, 1) := by decide +kernel
theorem dX3_coveredByTrying_5 : decode cX3_coveredByTrying 5 = .ok (.if_icmp .le 9, 3) := by decide +kernel
theorem dX3_coveredByTrying_8 : decode cX3_coveredByTrying 8 = .ok (.aload_n 0, 1) := by decide +kernel
theorem dX3_coveredByTrying_9 : decode cX3_coveredByTrying 9 = .ok (.iconst 1, 1) := by decide +kernel
theorem dX3_coveredByTrying_10 : decode cX3_coveredByTrying 10 = .ok (.invokevirtual 93, 3) := by decide +kernel
theorem dX3_coveredByTrying_13 : decode cX3_coveredByTrying 13 = .ok (.ireturn, 1) := by decide +kernel
theorem dX3_coveredByTrying_14 : decode cX3_coveredByTrying 14 = .ok (.aload_n 0, 1) := by decide +kernel
theorem dX3_coveredByTrying_15 : decode cX3_coveredByTrying 15 = .ok (.iconst 0, 1) := by decide +kernel
theorem dX3_coveredByTrying_16 : decode cX3_coveredByTrying 16 = .ok (.putfield 78, 3) := by decide +kernel
theorem dX3_coveredByTrying_19 : decode cX3_coveredByTrying 19 = .ok (.aload_n 0, 1) := by decide +kernel
theorem dX3_coveredByTrying_20 : decode cX3_coveredByTrying 20 = .ok (.invokevirtual 151, 3) := by decide +kernel
theorem dX3_coveredByTrying_23 : decode cX3_coveredByTrying 23 = .ok (.ireturn, 1) := by decide +kernel
theorem dX3_entitlementOf_0 : decode cX3_entitlementOf 0 = .ok (.aload_n 0, 1) := by decide +kernel
theorem dX3_entitlementOf_1 : decode cX3_entitlementOf 1 = .ok (.iload_n 1, 1) := by decide +kernel
theorem dX3_entitlementOf_2 : decode cX3_entitlementOf 2 = .ok (.invokevirtual 103, 3) := by decide +kernel
theorem dX3_entitlementOf_5 : decode cX3_entitlementOf 5 = .ok (.ifCond .eq 5, 3) := by decide +kernel
theorem dX3_entitlementOf_8 : decode cX3_entitlementOf 8 = .ok (.iconst 0, 1) := by decide +kernel
theorem dX3_entitlementOf_9 : decode cX3_entitlementOf 9 = .ok (.ireturn, 1) := by decide +kernel
theorem dX3_entitlementOf_10 : decode cX3_entitlementOf 10 = .ok (.aload_n 0, 1) := by decide +kernel
theorem dX3_entitlementOf_11 : decode cX3_entitlementOf 11 = .ok (.invokevirtual 148, 3) := by decide +kernel
theorem dX3_entitlementOf_14 : decode cX3_entitlementOf 14 = .ok (.aload_n 0, 1) := by decide +kernel
theorem dX3_entitlementOf_15 : decode cX3_entitlementOf 15 = .ok (.getfield 69, 3) := by decide +kernel
theorem dX3_entitlementOf_18 : decode cX3_entitlementOf 18 = .ok (.iload_n 1, 1) := by decide +kernel
theorem dX3_entitlementOf_19 : decode cX3_entitlementOf 19 = .ok (.iaload, 1) := by decide +kernel
theorem dX3_entitlementOf_20 : decode cX3_entitlementOf 20 = .ok (.iconst (-1), 1) := by decide +kernel
theorem dX3_entitlementOf_21 : decode cX3_entitlementOf 21 = .ok (.if_icmp .ne 9, 3) := by decide +kernel
theorem dX3_entitlementOf_24 : decode cX3_entitlementOf 24 = .ok (.aload_n 0, 1) := by decide +kernel
theorem dX3_entitlementOf_25 : decode cX3_entitlementOf 25 = .ok (.iconst 2, 1) := by decide +kernel
theorem dX3_entitlementOf_26 : decode cX3_entitlementOf 26 = .ok (.invokevirtual 93, 3) := by decide +kernel
theorem dX3_entitlementOf_29 : decode cX3_entitlementOf 29 = .ok (.ireturn, 1) := by decide +kernel
theorem dX3_entitlementOf_30 : decode cX3_entitlementOf 30 = .ok (.aload_n 0, 1) := by decide +kernel
theorem dX3_entitlementOf_31 : decode cX3_entitlementOf 31 = .ok (.getfield 69, 3) := by decide +kernel
theorem dX3_entitlementOf_34 : decode cX3_entitlementOf 34 = .ok (.iload_n 1, 1) := by decide +kernel
theorem dX3_entitlementOf_35 : decode cX3_entitlementOf 35 = .ok (.iaload, 1) := by decide +kernel
theorem dX3_entitlementOf_36 : decode cX3_entitlementOf 36 = .ok (.ireturn, 1) := by decide +kernel
theorem dX3_reason_0 : decode cX3_reason 0 = .ok (.aload_n 0, 1) := by decide +kernel
theorem dX3_reason_1 : decode cX3_reason 1 = .ok (.iload_n 1, 1) := by decide +kernel
theorem dX3_reason_2 : decode cX3_reason 2 = .ok (.invokevirtual 103, 3) := by decide +kernel
theorem dX3_reason_5 : decode cX3_reason 5 = .ok (.ifCond .eq 6, 3) := by decide +kernel
theorem dX3_reason_8 : decode cX3_reason 8 = .ok (.bipush 99, 2) := by decide +kernel
theorem dX3_reason_10 : decode cX3_reason 10 = .ok (.ireturn, 1) := by decide +kernel
theorem dX3_reason_11 : decode cX3_reason 11 = .ok (.aload_n 0, 1) := by decide +kernel
theorem dX3_reason_12 : decode cX3_reason 12 = .ok (.invokevirtual 148, 3) := by decide +kernel
theorem dX3_reason_15 : decode cX3_reason 15 = .ok (.aload_n 0, 1) := by decide +kernel
theorem dX3_reason_16 : decode cX3_reason 16 = .ok (.getfield 69, 3) := by decide +kernel
theorem dX3_reason_19 : decode cX3_reason 19 = .ok (.iload_n 1, 1) := by decide +kernel
theorem dX3_reason_20 : decode cX3_reason 20 = .ok (.iaload, 1) := by decide +kernel
theorem dX3_reason_21 : decode cX3_reason 21 = .ok (.iconst (-1), 1) := by decide +kernel
theorem dX3_reason_22 : decode cX3_reason 22 = .ok (.if_icmp .eq 8, 3) := by decide +kernel
theorem dX3_reason_25 : decode cX3_reason 25 = .ok (.bipush 99, 2) := by decide +kernel
theorem dX3_reason_27 : decode cX3_reason 27 = .ok (.goto 18, 3) := by decide +kernel
theorem dX3_reason_30 : decode cX3_reason 30 = .ok (.aload_n 0, 1) := by decide +kernel
theorem dX3_reason_31 : decode cX3_reason 31 = .ok (.iload_n 1, 1) := by decide +kernel
theorem dX3_reason_32 : decode cX3_reason 32 = .ok (.invokevirtual 120, 3) := by decide +kernel
theorem dX3_reason_35 : decode cX3_reason 35 = .ok (.ifCond .ne 8, 3) := by decide +kernel
theorem dX3_reason_38 : decode cX3_reason 38 = .ok (.bipush 110, 2) := by decide +kernel
theorem dX3_reason_40 : decode cX3_reason 40 = .ok (.goto 5, 3) := by decide +kernel
theorem dX3_reason_43 : decode cX3_reason 43 = .ok (.bipush 117, 2) := by decide +kernel
theorem dX3_reason_45 : decode cX3_reason 45 = .ok (.ireturn, 1) := by decide +kernel
theorem dX3_used_0 : decode cX3_used 0 = .ok (.aload_n 0, 1) := by decide +kernel
theorem dX3_used_1 : decode cX3_used 1 = .ok (.iload_n 1, 1) := by decide +kernel
theorem dX3_used_2 : decode cX3_used 2 = .ok (.invokevirtual 106, 3) := by decide +kernel
theorem dX3_used_5 : decode cX3_used 5 = .ok (.ifCond .eq 5, 3) := by decide +kernel
theorem dX3_used_8 : decode cX3_used 8 = .ok (.iconst 0, 1) := by decide +kernel
theorem dX3_used_9 : decode cX3_used 9 = .ok (.ireturn, 1) := by decide +kernel
theorem dX3_used_10 : decode cX3_used 10 = .ok (.aload_n 0, 1) := by decide +kernel
theorem dX3_used_11 : decode cX3_used 11 = .ok (.invokevirtual 148, 3) := by decide +kernel
theorem dX3_used_14 : decode cX3_used 14 = .ok (.aload_n 0, 1) := by decide +kernel
theorem dX3_used_15 : decode cX3_used 15 = .ok (.iload_n 1, 1) := by decide +kernel
theorem dX3_used_16 : decode cX3_used 16 = .ok (.invokevirtual 126, 3) := by decide +kernel
theorem dX3_used_19 : decode cX3_used 19 = .ok (.ireturn, 1) := by decide +kernel
theorem dX3_spare_0 : decode cX3_spare 0 = .ok (.aload_n 0, 1) := by decide +kernel
theorem dX3_spare_1 : decode cX3_spare 1 = .ok (.iload_n 1, 1) := by decide +kernel
theorem dX3_spare_2 : decode cX3_spare 2 = .ok (.invokevirtual 106, 3) := by decide +kernel
theorem dX3_spare_5 : decode cX3_spare 5 = .ok (.ifCond .eq 5, 3) := by decide +kernel
theorem dX3_spare_8 : decode cX3_spare 8 = .ok (.iconst 0, 1) := by decide +kernel
theorem dX3_spare_9 : decode cX3_spare 9 = .ok (.ireturn, 1) := by decide +kernel
theorem dX3_spare_10 : decode cX3_spare 10 = .ok (.aload_n 0, 1) := by decide +kernel
theorem dX3_spare_11 : decode cX3_spare 11 = .ok (.invokevirtual 148, 3) := by decide +kernel
theorem dX3_spare_14 : decode cX3_spare 14 = .ok (.aload_n 0, 1) := by decide +kernel
theorem dX3_spare_15 : decode cX3_spare 15 = .ok (.getfield 53, 3) := by decide +kernel
theorem dX3_spare_18 : decode cX3_spare 18 = .ok (.iload_n 1, 1) := by decide +kernel
theorem dX3_spare_19 : decode cX3_spare 19 = .ok (.iaload, 1) := by decide +kernel
theorem dX3_spare_20 : decode cX3_spare 20 = .ok (.aload_n 0, 1) := by decide +kernel
theorem dX3_spare_21 : decode cX3_spare 21 = .ok (.iload_n 1, 1) := by decide +kernel
theorem dX3_spare_22 : decode cX3_spare 22 = .ok (.invokevirtual 126, 3) := by decide +kernel
theorem dX3_spare_25 : decode cX3_spare 25 = .ok (.isub, 1) := by decide +kernel
theorem dX3_spare_26 : decode cX3_spare 26 = .ok (.ireturn, 1) := by decide +kernel
theorem dX3_beyond_0 : decode cX3_beyond 0 = .ok (.aload_n 0, 1) := by decide +kernel
theorem dX3_beyond_1 : decode cX3_beyond 1 = .ok (.iload_n 1, 1) := by decide +kernel
theorem dX3_beyond_2 : decode cX3_beyond 2 = .ok (.invokevirtual 126, 3) := by decide +kernel
theorem dX3_beyond_5 : decode cX3_beyond 5 = .ok (.aload_n 0, 1) := by decide +kernel
theorem dX3_beyond_6 : decode cX3_beyond 6 = .ok (.getfield 53, 3) := by decide +kernel
theorem dX3_beyond_9 : decode cX3_beyond 9 = .ok (.iload_n 1, 1) := by decide +kernel
theorem dX3_beyond_10 : decode cX3_beyond 10 = .ok (.iaload, 1) := by decide +kernel
theorem dX3_beyond_11 : decode cX3_beyond 11 = .ok (.isub, 1) := by decide +kernel
theorem dX3_beyond_12 : decode cX3_beyond 12 = .ok (.istore_n 2, 1) := by decide +kernel
theorem dX3_beyond_13 : decode cX3_beyond 13 = .ok (.iload_n 2, 1) := by decide +kernel
theorem dX3_beyond_14 : decode cX3_beyond 14 = .ok (.ifCond .le 7, 3) := by decide +kernel
theorem dX3_beyond_17 : decode cX3_beyond 17 = .ok (.iload_n 2, 1) := by decide +kernel
theorem dX3_beyond_18 : decode cX3_beyond 18 = .ok (.goto 4, 3) := by decide +kernel
theorem dX3_beyond_21 : decode cX3_beyond 21 = .ok (.iconst 0, 1) := by decide +kernel
theorem dX3_beyond_22 : decode cX3_beyond 22 = .ok (.ireturn, 1) := by decide +kernel
theorem dX3_costs_0 : decode cX3_costs 0 = .ok (.iconst 0, 1) := by decide +kernel
theorem dX3_costs_1 : decode cX3_costs 1 = .ok (.istore_n 1, 1) := by decide +kernel
theorem dX3_costs_2 : decode cX3_costs 2 = .ok (.iconst 0, 1) := by decide +kernel
theorem dX3_costs_3 : decode cX3_costs 3 = .ok (.istore_n 2, 1) := by decide +kernel
theorem dX3_costs_4 : decode cX3_costs 4 = .ok (.iload_n 2, 1) := by decide +kernel
theorem dX3_costs_5 : decode cX3_costs 5 = .ok (.aload_n 0, 1) := by decide +kernel
theorem dX3_costs_6 : decode cX3_costs 6 = .ok (.getfield 86, 3) := by decide +kernel
theorem dX3_costs_9 : decode cX3_costs 9 = .ok (.if_icmp .ge 24, 3) := by decide +kernel
theorem dX3_costs_12 : decode cX3_costs 12 = .ok (.iload_n 1, 1) := by decide +kernel
theorem dX3_costs_13 : decode cX3_costs 13 = .ok (.aload_n 0, 1) := by decide +kernel
theorem dX3_costs_14 : decode cX3_costs 14 = .ok (.getfield 62, 3) := by decide +kernel
theorem dX3_costs_17 : decode cX3_costs 17 = .ok (.iload_n 2, 1) := by decide +kernel
theorem dX3_costs_18 : decode cX3_costs 18 = .ok (.iaload, 1) := by decide +kernel
theorem dX3_costs_19 : decode cX3_costs 19 = .ok (.aload_n 0, 1) := by decide +kernel
theorem dX3_costs_20 : decode cX3_costs 20 = .ok (.iload_n 2, 1) := by decide +kernel
theorem dX3_costs_21 : decode cX3_costs 21 = .ok (.invokevirtual 155, 3) := by decide +kernel
theorem dX3_costs_24 : decode cX3_costs 24 = .ok (.imul, 1) := by decide +kernel
theorem dX3_costs_25 : decode cX3_costs 25 = .ok (.iadd, 1) := by decide +kernel
theorem dX3_costs_26 : decode cX3_costs 26 = .ok (.istore_n 1, 1) := by decide +kernel
theorem dX3_costs_27 : decode cX3_costs 27 = .ok (.iinc 2 1, 3) := by decide +kernel
theorem dX3_costs_30 : decode cX3_costs 30 = .ok (.goto (-26), 3) := by decide +kernel
theorem dX3_costs_33 : decode cX3_costs 33 = .ok (.iload_n 1, 1) := by decide +kernel
theorem dX3_costs_34 : decode cX3_costs 34 = .ok (.ireturn, 1) := by decide +kernel
theorem dX3_buys_0 : decode cX3_buys 0 = .ok (.aload_n 0, 1) := by decide +kernel
theorem dX3_buys_1 : decode cX3_buys 1 = .ok (.invokevirtual 158, 3) := by decide +kernel
theorem dX3_buys_4 : decode cX3_buys 4 = .ok (.istore_n 2, 1) := by decide +kernel
theorem dX3_buys_5 : decode cX3_buys 5 = .ok (.aload_n 0, 1) := by decide +kernel
theorem dX3_buys_6 : decode cX3_buys 6 = .ok (.getfield 129, 3) := by decide +kernel
theorem dX3_buys_9 : decode cX3_buys 9 = .ok (.iconst (-1), 1) := by decide +kernel
theorem dX3_buys_10 : decode cX3_buys 10 = .ok (.if_icmp .eq 12, 3) := by decide +kernel
theorem dX3_buys_13 : decode cX3_buys 13 = .ok (.iload_n 2, 1) := by decide +kernel
theorem dX3_buys_14 : decode cX3_buys 14 = .ok (.aload_n 0, 1) := by decide +kernel
theorem dX3_buys_15 : decode cX3_buys 15 = .ok (.getfield 129, 3) := by decide +kernel
theorem dX3_buys_18 : decode cX3_buys 18 = .ok (.if_icmp .lt 4, 3) := by decide +kernel
theorem dX3_buys_21 : decode cX3_buys 21 = .ok (.return_, 1) := by decide +kernel
theorem dX3_buys_22 : decode cX3_buys 22 = .ok (.iload_n 1, 1) := by decide +kernel
theorem dX3_buys_23 : decode cX3_buys 23 = .ok (.aload_n 0, 1) := by decide +kernel
theorem dX3_buys_24 : decode cX3_buys 24 = .ok (.getfield 100, 3) := by decide +kernel
theorem dX3_buys_27 : decode cX3_buys 27 = .ok (.if_icmp .ne 13, 3) := by decide +kernel
theorem dX3_buys_30 : decode cX3_buys 30 = .ok (.aload_n 0, 1) := by decide +kernel
theorem dX3_buys_31 : decode cX3_buys 31 = .ok (.iload_n 2, 1) := by decide +kernel
theorem dX3_buys_32 : decode cX3_buys 32 = .ok (.putfield 129, 3) := by decide +kernel
theorem dX3_buys_35 : decode cX3_buys 35 = .ok (.aload_n 0, 1) := by decide +kernel
theorem dX3_buys_36 : decode cX3_buys 36 = .ok (.invokevirtual 132, 3) := by decide +kernel
theorem dX3_buys_39 : decode cX3_buys 39 = .ok (.return_, 1) := by decide +kernel
theorem dX3_buys_40 : decode cX3_buys 40 = .ok (.aload_n 0, 1) := by decide +kernel
theorem dX3_buys_41 : decode cX3_buys 41 = .ok (.getfield 31, 3) := by decide +kernel
theorem dX3_buys_44 : decode cX3_buys 44 = .ok (.iload_n 1, 1) := by decide +kernel
theorem dX3_buys_45 : decode cX3_buys 45 = .ok (.baload, 1) := by decide +kernel
theorem dX3_buys_46 : decode cX3_buys 46 = .ok (.ifCond .eq 11, 3) := by decide +kernel
theorem dX3_buys_49 : decode cX3_buys 49 = .ok (.aload_n 0, 1) := by decide +kernel
theorem dX3_buys_50 : decode cX3_buys 50 = .ok (.iload_n 1, 1) := by decide +kernel
theorem dX3_buys_51 : decode cX3_buys 51 = .ok (.iconst 1, 1) := by decide +kernel
theorem dX3_buys_52 : decode cX3_buys 52 = .ok (.iadd, 1) := by decide +kernel
theorem dX3_buys_53 : decode cX3_buys 53 = .ok (.invokevirtual 161, 3) := by decide +kernel
theorem dX3_buys_56 : decode cX3_buys 56 = .ok (.return_, 1) := by decide +kernel
theorem dX3_buys_57 : decode cX3_buys 57 = .ok (.iconst 0, 1) := by decide +kernel
theorem dX3_buys_58 : decode cX3_buys 58 = .ok (.istore_n 3, 1) := by decide +kernel
theorem dX3_buys_59 : decode cX3_buys 59 = .ok (.iload_n 3, 1) := by decide +kernel
theorem dX3_buys_60 : decode cX3_buys 60 = .ok (.aload_n 0, 1) := by decide +kernel
theorem dX3_buys_61 : decode cX3_buys 61 = .ok (.getfield 86, 3) := by decide +kernel
theorem dX3_buys_64 : decode cX3_buys 64 = .ok (.if_icmp .ge 35, 3) := by decide +kernel
theorem dX3_buys_67 : decode cX3_buys 67 = .ok (.aload_n 0, 1) := by decide +kernel
theorem dX3_buys_68 : decode cX3_buys 68 = .ok (.iload_n 1, 1) := by decide +kernel
theorem dX3_buys_69 : decode cX3_buys 69 = .ok (.iload_n 3, 1) := by decide +kernel
theorem dX3_buys_70 : decode cX3_buys 70 = .ok (.invokevirtual 117, 3) := by decide +kernel
theorem dX3_buys_73 : decode cX3_buys 73 = .ok (.ifCond .ne 6, 3) := by decide +kernel
theorem dX3_buys_76 : decode cX3_buys 76 = .ok (.goto 17, 3) := by decide +kernel
theorem dX3_buys_79 : decode cX3_buys 79 = .ok (.aload_n 0, 1) := by decide +kernel
theorem dX3_buys_80 : decode cX3_buys 80 = .ok (.getfield 69, 3) := by decide +kernel
theorem dX3_buys_83 : decode cX3_buys 83 = .ok (.iload_n 1, 1) := by decide +kernel
theorem dX3_buys_84 : decode cX3_buys 84 = .ok (.iload_n 3, 1) := by decide +kernel
theorem dX3_buys_85 : decode cX3_buys 85 = .ok (.iastore, 1) := by decide +kernel
theorem dX3_buys_86 : decode cX3_buys 86 = .ok (.aload_n 0, 1) := by decide +kernel
theorem dX3_buys_87 : decode cX3_buys 87 = .ok (.iload_n 1, 1) := by decide +kernel
theorem dX3_buys_88 : decode cX3_buys 88 = .ok (.iconst 1, 1) := by decide +kernel
theorem dX3_buys_89 : decode cX3_buys 89 = .ok (.iadd, 1) := by decide +kernel
theorem dX3_buys_90 : decode cX3_buys 90 = .ok (.invokevirtual 161, 3) := by decide +kernel
theorem dX3_buys_93 : decode cX3_buys 93 = .ok (.iinc 3 1, 3) := by decide +kernel
theorem dX3_buys_96 : decode cX3_buys 96 = .ok (.goto (-37), 3) := by decide +kernel
theorem dX3_buys_99 : decode cX3_buys 99 = .ok (.aload_n 0, 1) := by decide +kernel
theorem dX3_buys_100 : decode cX3_buys 100 = .ok (.getfield 69, 3) := by decide +kernel
theorem dX3_buys_103 : decode cX3_buys 103 = .ok (.iload_n 1, 1) := by decide +kernel
theorem dX3_buys_104 : decode cX3_buys 104 = .ok (.iconst (-1), 1) := by decide +kernel
theorem dX3_buys_105 : decode cX3_buys 105 = .ok (.iastore, 1) := by decide +kernel
theorem dX3_buys_106 : decode cX3_buys 106 = .ok (.return_, 1) := by decide +kernel
theorem dX3_noPurchase_0 : decode cX3_noPurchase 0 = .ok (.iconst 0, 1) := by decide +kernel
theorem dX3_noPurchase_1 : decode cX3_noPurchase 1 = .ok (.istore_n 2, 1) := by decide +kernel
theorem dX3_noPurchase_2 : decode cX3_noPurchase 2 = .ok (.iload_n 2, 1) := by decide +kernel
theorem dX3_noPurchase_3 : decode cX3_noPurchase 3 = .ok (.aload_n 0, 1) := by decide +kernel
theorem dX3_noPurchase_4 : decode cX3_noPurchase 4 = .ok (.getfield 100, 3) := by decide +kernel
theorem dX3_noPurchase_7 : decode cX3_noPurchase 7 = .ok (.if_icmp .ge 36, 3) := by decide +kernel
theorem dX3_noPurchase_10 : decode cX3_noPurchase 10 = .ok (.aload_n 0, 1) := by decide +kernel
theorem dX3_noPurchase_11 : decode cX3_noPurchase 11 = .ok (.getfield 31, 3) := by decide +kernel
theorem dX3_noPurchase_14 : decode cX3_noPurchase 14 = .ok (.iload_n 2, 1) := by decide +kernel
theorem dX3_noPurchase_15 : decode cX3_noPurchase 15 = .ok (.baload, 1) := by decide +kernel
theorem dX3_noPurchase_16 : decode cX3_noPurchase 16 = .ok (.ifCond .ne 21, 3) := by decide +kernel
theorem dX3_noPurchase_19 : decode cX3_noPurchase 19 = .ok (.aload_n 0, 1) := by decide +kernel
theorem dX3_noPurchase_20 : decode cX3_noPurchase 20 = .ok (.iload_n 2, 1) := by decide +kernel
theorem dX3_noPurchase_21 : decode cX3_noPurchase 21 = .ok (.invokevirtual 120, 3) := by decide +kernel
theorem dX3_noPurchase_24 : decode cX3_noPurchase 24 = .ok (.ifCond .le 6, 3) := by decide +kernel
theorem dX3_noPurchase_27 : decode cX3_noPurchase 27 = .ok (.goto 10, 3) := by decide +kernel
theorem dX3_noPurchase_30 : decode cX3_noPurchase 30 = .ok (.aload_n 0, 1) := by decide +kernel
theorem dX3_noPurchase_31 : decode cX3_noPurchase 31 = .ok (.iload_n 1, 1) := by decide +kernel
theorem dX3_noPurchase_32 : decode cX3_noPurchase 32 = .ok (.putfield 78, 3) := by decide +kernel
theorem dX3_noPurchase_35 : decode cX3_noPurchase 35 = .ok (.iconst 1, 1) := by decide +kernel
theorem dX3_noPurchase_36 : decode cX3_noPurchase 36 = .ok (.ireturn, 1) := by decide +kernel
theorem dX3_noPurchase_37 : decode cX3_noPurchase 37 = .ok (.iinc 2 1, 3) := by decide +kernel
theorem dX3_noPurchase_40 : decode cX3_noPurchase 40 = .ok (.goto (-38), 3) := by decide +kernel
theorem dX3_noPurchase_43 : decode cX3_noPurchase 43 = .ok (.aload_n 0, 1) := by decide +kernel
theorem dX3_noPurchase_44 : decode cX3_noPurchase 44 = .ok (.iconst 0, 1) := by decide +kernel
theorem dX3_noPurchase_45 : decode cX3_noPurchase 45 = .ok (.putfield 78, 3) := by decide +kernel
theorem dX3_noPurchase_48 : decode cX3_noPurchase 48 = .ok (.aload_n 0, 1) := by decide +kernel
theorem dX3_noPurchase_49 : decode cX3_noPurchase 49 = .ok (.invokevirtual 142, 3) := by decide +kernel
theorem dX3_noPurchase_52 : decode cX3_noPurchase 52 = .ok (.aload_n 0, 1) := by decide +kernel
theorem dX3_noPurchase_53 : decode cX3_noPurchase 53 = .ok (.iconst 0, 1) := by decide +kernel
theorem dX3_noPurchase_54 : decode cX3_noPurchase 54 = .ok (.invokevirtual 161, 3) := by decide +kernel
theorem dX3_noPurchase_57 : decode cX3_noPurchase 57 = .ok (.aload_n 0, 1) := by decide +kernel
theorem dX3_noPurchase_58 : decode cX3_noPurchase 58 = .ok (.invokevirtual 145, 3) := by decide +kernel
theorem dX3_noPurchase_61 : decode cX3_noPurchase 61 = .ok (.iconst 0, 1) := by decide +kernel
theorem dX3_noPurchase_62 : decode cX3_noPurchase 62 = .ok (.ireturn, 1) := by decide +kernel
theorem dX3_purchase_0 : decode cX3_purchase 0 = .ok (.aload_n 0, 1) := by decide +kernel
theorem dX3_purchase_1 : decode cX3_purchase 1 = .ok (.iconst 1, 1) := by decide +kernel
theorem dX3_purchase_2 : decode cX3_purchase 2 = .ok (.invokevirtual 165, 3) := by decide +kernel
theorem dX3_purchase_5 : decode cX3_purchase 5 = .ok (.ifCond .eq 7, 3) := by decide +kernel
theorem dX3_purchase_8 : decode cX3_purchase 8 = .ok (.iconst 0, 1) := by decide +kernel
theorem dX3_purchase_9 : decode cX3_purchase 9 = .ok (.goto 7, 3) := by decide +kernel
theorem dX3_purchase_12 : decode cX3_purchase 12 = .ok (.aload_n 0, 1) := by decide +kernel
theorem dX3_purchase_13 : decode cX3_purchase 13 = .ok (.getfield 129, 3) := by decide +kernel
theorem dX3_purchase_16 : decode cX3_purchase 16 = .ok (.ireturn, 1) := by decide +kernel
theorem dX3_purchaseByTrying_0 : decode cX3_purchaseByTrying 0 = .ok (.aload_n 0, 1) := by decide +kernel
theorem dX3_purchaseByTrying_1 : decode cX3_purchaseByTrying 1 = .ok (.getfield 97, 3) := by decide +kernel
theorem dX3_purchaseByTrying_4 : decode cX3_purchaseByTrying 4 = .ok (.iconst 4, 1) := by decide +kernel
theorem dX3_purchaseByTrying_5 : decode cX3_purchaseByTrying 5 = .ok (.if_icmp .le 9, 3) := by decide +kernel
theorem dX3_purchaseByTrying_8 : decode cX3_purchaseByTrying 8 = .ok (.aload_n 0, 1) := by decide +kernel
theorem dX3_purchaseByTrying_9 : decode cX3_purchaseByTrying 9 = .ok (.iconst 1, 1) := by decide +kernel
theorem dX3_purchaseByTrying_10 : decode cX3_purchaseByTrying 10 = .ok (.invokevirtual 93, 3) := by decide +kernel
theorem dX3_purchaseByTrying_13 : decode cX3_purchaseByTrying 13 = .ok (.ireturn, 1) := by decide +kernel
theorem dX3_purchaseByTrying_14 : decode cX3_purchaseByTrying 14 = .ok (.aload_n 0, 1) := by decide +kernel
theorem dX3_purchaseByTrying_15 : decode cX3_purchaseByTrying 15 = .ok (.iconst 2, 1) := by decide +kernel
theorem dX3_purchaseByTrying_16 : decode cX3_purchaseByTrying 16 = .ok (.invokevirtual 165, 3) := by decide +kernel
theorem dX3_purchaseByTrying_19 : decode cX3_purchaseByTrying 19 = .ok (.ifCond .eq 7, 3) := by decide +kernel
theorem dX3_purchaseByTrying_22 : decode cX3_purchaseByTrying 22 = .ok (.iconst 0, 1) := by decide +kernel
theorem dX3_purchaseByTrying_23 : decode cX3_purchaseByTrying 23 = .ok (.goto 7, 3) := by decide +kernel
theorem dX3_purchaseByTrying_26 : decode cX3_purchaseByTrying 26 = .ok (.aload_n 0, 1) := by decide +kernel
theorem dX3_purchaseByTrying_27 : decode cX3_purchaseByTrying 27 = .ok (.getfield 129, 3) := by decide +kernel
theorem dX3_purchaseByTrying_30 : decode cX3_purchaseByTrying 30 = .ok (.ireturn, 1) := by decide +kernel
theorem dX3_toBuy_0 : decode cX3_toBuy 0 = .ok (.aload_n 0, 1) := by decide +kernel
theorem dX3_toBuy_1 : decode cX3_toBuy 1 = .ok (.iload_n 1, 1) := by decide +kernel
theorem dX3_toBuy_2 : decode cX3_toBuy 2 = .ok (.invokevirtual 106, 3) := by decide +kernel
theorem dX3_toBuy_5 : decode cX3_toBuy 5 = .ok (.ifCond .eq 5, 3) := by decide +kernel
theorem dX3_toBuy_8 : decode cX3_toBuy 8 = .ok (.iconst 0, 1) := by decide +kernel
theorem dX3_toBuy_9 : decode cX3_toBuy 9 = .ok (.ireturn, 1) := by decide +kernel
theorem dX3_toBuy_10 : decode cX3_toBuy 10 = .ok (.aload_n 0, 1) := by decide +kernel
theorem dX3_toBuy_11 : decode cX3_toBuy 11 = .ok (.iconst 2, 1) := by decide +kernel
theorem dX3_toBuy_12 : decode cX3_toBuy 12 = .ok (.invokevirtual 165, 3) := by decide +kernel
theorem dX3_toBuy_15 : decode cX3_toBuy 15 = .ok (.ifCond .eq 7, 3) := by decide +kernel
theorem dX3_toBuy_18 : decode cX3_toBuy 18 = .ok (.iconst 0, 1) := by decide +kernel
theorem dX3_toBuy_19 : decode cX3_toBuy 19 = .ok (.goto 8, 3) := by decide +kernel
theorem dX3_toBuy_22 : decode cX3_toBuy 22 = .ok (.aload_n 0, 1) := by decide +kernel
theorem dX3_toBuy_23 : decode cX3_toBuy 23 = .ok (.iload_n 1, 1) := by decide +kernel
theorem dX3_toBuy_24 : decode cX3_toBuy 24 = .ok (.invokevirtual 155, 3) := by decide +kernel
theorem dX3_toBuy_27 : decode cX3_toBuy 27 = .ok (.ireturn, 1) := by decide +kernel
theorem dX3_trueUp_0 : decode cX3_trueUp 0 = .ok (.aload_n 0, 1) := by decide +kernel
theorem dX3_trueUp_1 : decode cX3_trueUp 1 = .ok (.iconst 1, 1) := by decide +kernel
theorem dX3_trueUp_2 : decode cX3_trueUp 2 = .ok (.invokevirtual 165, 3) := by decide +kernel
theorem dX3_trueUp_5 : decode cX3_trueUp 5 = .ok (.ifCond .eq 5, 3) := by decide +kernel
theorem dX3_trueUp_8 : decode cX3_trueUp 8 = .ok (.iconst 0, 1) := by decide +kernel
theorem dX3_trueUp_9 : decode cX3_trueUp 9 = .ok (.ireturn, 1) := by decide +kernel
theorem dX3_trueUp_10 : decode cX3_trueUp 10 = .ok (.iconst 0, 1) := by decide +kernel
theorem dX3_trueUp_11 : decode cX3_trueUp 11 = .ok (.istore_n 1, 1) := by decide +kernel
theorem dX3_trueUp_12 : decode cX3_trueUp 12 = .ok (.iload_n 1, 1) := by decide +kernel
theorem dX3_trueUp_13 : decode cX3_trueUp 13 = .ok (.aload_n 0, 1) := by decide +kernel
theorem dX3_trueUp_14 : decode cX3_trueUp 14 = .ok (.getfield 86, 3) := by decide +kernel
theorem dX3_trueUp_17 : decode cX3_trueUp 17 = .ok (.if_icmp .ge 23, 3) := by decide +kernel
theorem dX3_trueUp_20 : decode cX3_trueUp 20 = .ok (.aload_n 0, 1) := by decide +kernel
theorem dX3_trueUp_21 : decode cX3_trueUp 21 = .ok (.getfield 53, 3) := by decide +kernel
theorem dX3_trueUp_24 : decode cX3_trueUp 24 = .ok (.iload_n 1, 1) := by decide +kernel
theorem dX3_trueUp_25 : decode cX3_trueUp 25 = .ok (.dup2, 1) := by decide +kernel
theorem dX3_trueUp_26 : decode cX3_trueUp 26 = .ok (.iaload, 1) := by decide +kernel
theorem dX3_trueUp_27 : decode cX3_trueUp 27 = .ok (.aload_n 0, 1) := by decide +kernel
theorem dX3_trueUp_28 : decode cX3_trueUp 28 = .ok (.iload_n 1, 1) := by decide +kernel
theorem dX3_trueUp_29 : decode cX3_trueUp 29 = .ok (.invokevirtual 155, 3) := by decide +kernel
theorem dX3_trueUp_32 : decode cX3_trueUp 32 = .ok (.iadd, 1) := by decide +kernel
theorem dX3_trueUp_33 : decode cX3_trueUp 33 = .ok (.iastore, 1) := by decide +kernel
theorem dX3_trueUp_34 : decode cX3_trueUp 34 = .ok (.iinc 1 1, 3) := by decide +kernel
theorem dX3_trueUp_37 : decode cX3_trueUp 37 = .ok (.goto (-25), 3) := by decide +kernel
theorem dX3_trueUp_40 : decode cX3_trueUp 40 = .ok (.aload_n 0, 1) := by decide +kernel
theorem dX3_trueUp_41 : decode cX3_trueUp 41 = .ok (.dup, 1) := by decide +kernel
theorem dX3_trueUp_42 : decode cX3_trueUp 42 = .ok (.getfield 168, 3) := by decide +kernel
theorem dX3_trueUp_45 : decode cX3_trueUp 45 = .ok (.aload_n 0, 1) := by decide +kernel
theorem dX3_trueUp_46 : decode cX3_trueUp 46 = .ok (.getfield 129, 3) := by decide +kernel
theorem dX3_trueUp_49 : decode cX3_trueUp 49 = .ok (.i2l, 1) := by decide +kernel
theorem dX3_trueUp_50 : decode cX3_trueUp 50 = .ok (.ladd, 1) := by decide +kernel
theorem dX3_trueUp_51 : decode cX3_trueUp 51 = .ok (.putfield 168, 3) := by decide +kernel
theorem dX3_trueUp_54 : decode cX3_trueUp 54 = .ok (.aload_n 0, 1) := by decide +kernel
theorem dX3_trueUp_55 : decode cX3_trueUp 55 = .ok (.getfield 129, 3) := by decide +kernel
theorem dX3_trueUp_58 : decode cX3_trueUp 58 = .ok (.ireturn, 1) := by decide +kernel
theorem dX3_spent_0 : decode cX3_spent 0 = .ok (.aload_n 0, 1) := by decide +kernel
theorem dX3_spent_1 : decode cX3_spent 1 = .ok (.getfield 168, 3) := by decide +kernel
theorem dX3_spent_4 : decode cX3_spent 4 = .ok (.lreturn, 1) := by decide +kernel
theorem dX3_coverage_0 : decode cX3_coverage 0 = .ok (.aload_n 0, 1) := by decide +kernel
theorem dX3_coverage_1 : decode cX3_coverage 1 = .ok (.aload_n 0, 1) := by decide +kernel
theorem dX3_coverage_2 : decode cX3_coverage 2 = .ok (.getfield 97, 3) := by decide +kernel
theorem dX3_coverage_5 : decode cX3_coverage 5 = .ok (.ifCond .ne 7, 3) := by decide +kernel
theorem dX3_coverage_8 : decode cX3_coverage 8 = .ok (.iconst 1, 1) := by decide +kernel
theorem dX3_coverage_9 : decode cX3_coverage 9 = .ok (.goto 4, 3) := by decide +kernel
theorem dX3_coverage_12 : decode cX3_coverage 12 = .ok (.iconst 0, 1) := by decide +kernel
theorem dX3_coverage_13 : decode cX3_coverage 13 = .ok (.putfield 78, 3) := by decide +kernel
theorem dX3_coverage_16 : decode cX3_coverage 16 = .ok (.aload_n 0, 1) := by decide +kernel
theorem dX3_coverage_17 : decode cX3_coverage 17 = .ok (.getfield 97, 3) := by decide +kernel
theorem dX3_coverage_20 : decode cX3_coverage 20 = .ok (.ifCond .ne 5, 3) := by decide +kernel
theorem dX3_coverage_23 : decode cX3_coverage 23 = .ok (.fconst 0, 1) := by decide +kernel
theorem dX3_coverage_24 : decode cX3_coverage 24 = .ok (.freturn, 1) := by decide +kernel
theorem dX3_coverage_25 : decode cX3_coverage 25 = .ok (.aload_n 0, 1) := by decide +kernel
theorem dX3_coverage_26 : decode cX3_coverage 26 = .ok (.invokevirtual 148, 3) := by decide +kernel
theorem dX3_coverage_29 : decode cX3_coverage 29 = .ok (.aload_n 0, 1) := by decide +kernel
theorem dX3_coverage_30 : decode cX3_coverage 30 = .ok (.getfield 129, 3) := by decide +kernel
theorem dX3_coverage_33 : decode cX3_coverage 33 = .ok (.i2f, 1) := by decide +kernel
theorem dX3_coverage_34 : decode cX3_coverage 34 = .ok (.aload_n 0, 1) := by decide +kernel
theorem dX3_coverage_35 : decode cX3_coverage 35 = .ok (.getfield 97, 3) := by decide +kernel
theorem dX3_coverage_38 : decode cX3_coverage 38 = .ok (.i2f, 1) := by decide +kernel
theorem dX3_coverage_39 : decode cX3_coverage 39 = .ok (.fdiv, 1) := by decide +kernel
theorem dX3_coverage_40 : decode cX3_coverage 40 = .ok (.freturn, 1) := by decide +kernel
end
section
theorem dL_install_0 : decode cL_install 0 = .ok (.aload 8, 2) := by decide +kernel
theorem dL_install_2 : decode cL_install 2 = .ok (.iconst 0, 1) := by decide +kernel
theorem dL_install_3 : decode cL_install 3 = .ok (.aload_n 0, 1) := by decide +kernel
theorem dL_install_4 : decode cL_install 4 = .ok (.iload_n 1, 1) := by decide +kernel
theorem dL_install_5 : decode cL_install 5 = .ok (.iload_n 2, 1) := by decide +kernel
theorem dL_install_6 : decode cL_install 6 = .ok (.iload_n 3, 1) := by decide +kernel
theorem dL_install_7 : decode cL_install 7 = .ok (.iload 4, 2) := by decide +kernel
theorem dL_install_9 : decode cL_install 9 = .ok (.iload 5, 2) := by decide +kernel
theorem dL_install_11 : decode cL_install 11 = .ok (.iload 6, 2) := by decide +kernel
theorem dL_install_13 : decode cL_install 13 = .ok (.iload 7, 2) := by decide +kernel
theorem dL_install_15 : decode cL_install 15 = .ok (.invokevirtual 7, 3) := by decide +kernel
theorem dL_install_18 : decode cL_install 18 = .ok (.i2l, 1) := by decide +kernel
theorem dL_install_19 : decode cL_install 19 = .ok (.lastore, 1) := by decide +kernel
theorem dL_install_20 : decode cL_install 20 = .ok (.goto 11, 3) := by decide +kernel
theorem dL_install_23 : decode cL_install 23 = .ok (.astore 9, 2) := by decide +kernel
theorem dL_install_25 : decode cL_install 25 = .ok (.iconst 1, 1) := by decide +kernel
theorem dL_install_26 : decode cL_install 26 = .ok (.ireturn, 1) := by decide +kernel
theorem dL_install_27 : decode cL_install 27 = .ok (.astore 9, 2) := by decide +kernel
theorem dL_install_29 : decode cL_install 29 = .ok (.iconst 2, 1) := by decide +kernel
theorem dL_install_30 : decode cL_install 30 = .ok (.ireturn, 1) := by decide +kernel
theorem dL_install_31 : decode cL_install 31 = .ok (.iconst 0, 1) := by decide +kernel
theorem dL_install_32 : decode cL_install 32 = .ok (.ireturn, 1) := by decide +kernel
theorem dL_retire_0 : decode cL_retire 0 = .ok (.aload_n 2, 1) := by decide +kernel
theorem dL_retire_1 : decode cL_retire 1 = .ok (.iconst 0, 1) := by decide +kernel
theorem dL_retire_2 : decode cL_retire 2 = .ok (.aload_n 0, 1) := by decide +kernel
theorem dL_retire_3 : decode cL_retire 3 = .ok (.iload_n 1, 1) := by decide +kernel
theorem dL_retire_4 : decode cL_retire 4 = .ok (.invokevirtual 17, 3) := by decide +kernel
theorem dL_retire_7 : decode cL_retire 7 = .ok (.i2l, 1) := by decide +kernel
theorem dL_retire_8 : decode cL_retire 8 = .ok (.lastore, 1) := by decide +kernel
theorem dL_retire_9 : decode cL_retire 9 = .ok (.goto 6, 3) := by decide +kernel
theorem dL_retire_12 : decode cL_retire 12 = .ok (.astore_n 3, 1) := by decide +kernel
theorem dL_retire_13 : decode cL_retire 13 = .ok (.iconst 1, 1) := by decide +kernel
theorem dL_retire_14 : decode cL_retire 14 = .ok (.ireturn, 1) := by decide +kernel
theorem dL_retire_15 : decode cL_retire 15 = .ok (.iconst 0, 1) := by decide +kernel
theorem dL_retire_16 : decode cL_retire 16 = .ok (.ireturn, 1) := by decide +kernel
theorem dL_moveTo_0 : decode cL_moveTo 0 = .ok (.aload 4, 2) := by decide +kernel
theorem dL_moveTo_2 : decode cL_moveTo 2 = .ok (.iconst 0, 1) := by decide +kernel
theorem dL_moveTo_3 : decode cL_moveTo 3 = .ok (.aload_n 0, 1) := by decide +kernel
theorem dL_moveTo_4 : decode cL_moveTo 4 = .ok (.iload_n 1, 1) := by decide +kernel
theorem dL_moveTo_5 : decode cL_moveTo 5 = .ok (.iload_n 2, 1) := by decide +kernel
theorem dL_moveTo_6 : decode cL_moveTo 6 = .ok (.iload_n 3, 1) := by decide +kernel
theorem dL_moveTo_7 : decode cL_moveTo 7 = .ok (.invokevirtual 23, 3) := by decide +kernel
theorem dL_moveTo_10 : decode cL_moveTo 10 = .ok (.i2l, 1) := by decide +kernel
theorem dL_moveTo_11 : decode cL_moveTo 11 = .ok (.lastore, 1) := by decide +kernel
theorem dL_moveTo_12 : decode cL_moveTo 12 = .ok (.goto 11, 3) := by decide +kernel
theorem dL_moveTo_15 : decode cL_moveTo 15 = .ok (.astore 5, 2) := by decide +kernel
theorem dL_moveTo_17 : decode cL_moveTo 17 = .ok (.iconst 1, 1) := by decide +kernel
theorem dL_moveTo_18 : decode cL_moveTo 18 = .ok (.ireturn, 1) := by decide +kernel
theorem dL_moveTo_19 : decode cL_moveTo 19 = .ok (.astore 5, 2) := by decide +kernel
theorem dL_moveTo_21 : decode cL_moveTo 21 = .ok (.iconst 2, 1) := by decide +kernel
theorem dL_moveTo_22 : decode cL_moveTo 22 = .ok (.ireturn, 1) := by decide +kernel
theorem dL_moveTo_23 : decode cL_moveTo 23 = .ok (.iconst 0, 1) := by decide +kernel
theorem dL_moveTo_24 : decode cL_moveTo 24 = .ok (.ireturn, 1) := by decide +kernel
theorem dL_setVersion_0 : decode cL_setVersion 0 = .ok (.aload 4, 2) := by decide +kernel
theorem dL_setVersion_2 : decode cL_setVersion 2 = .ok (.iconst 0, 1) := by decide +kernel
theorem dL_setVersion_3 : decode cL_setVersion 3 = .ok (.aload_n 0, 1) := by decide +kernel
theorem dL_setVersion_4 : decode cL_setVersion 4 = .ok (.iload_n 1, 1) := by decide +kernel
theorem dL_setVersion_5 : decode cL_setVersion 5 = .ok (.iload_n 2, 1) := by decide +kernel
theorem dL_setVersion_6 : decode cL_setVersion 6 = .ok (.iload_n 3, 1) := by decide +kernel
theorem dL_setVersion_7 : decode cL_setVersion 7 = .ok (.invokevirtual 27, 3) := by decide +kernel
theorem dL_setVersion_10 : decode cL_setVersion 10 = .ok (.i2l, 1) := by decide +kernel
theorem dL_setVersion_11 : decode cL_setVersion 11 = .ok (.lastore, 1) := by decide +kernel
theorem dL_setVersion_12 : decode cL_setVersion 12 = .ok (.goto 11, 3) := by decide +kernel
theorem dL_setVersion_15 : decode cL_setVersion 15 = .ok (.astore 5, 2) := by decide +kernel
theorem dL_setVersion_17 : decode cL_setVersion 17 = .ok (.iconst 1, 1) := by decide +kernel
theorem dL_setVersion_18 : decode cL_setVersion 18 = .ok (.ireturn, 1) := by decide +kernel
theorem dL_setVersion_19 : decode cL_setVersion 19 = .ok (.astore 5, 2) := by decide +kernel
theorem dL_setVersion_21 : decode cL_setVersion 21 = .ok (.iconst 2, 1) := by decide +kernel
theorem dL_setVersion_22 : decode cL_setVersion 22 = .ok (.ireturn, 1) := by decide +kernel
theorem dL_setVersion_23 : decode cL_setVersion 23 = .ok (.iconst 0, 1) := by decide +kernel
theorem dL_setVersion_24 : decode cL_setVersion 24 = .ok (.ireturn, 1) := by decide +kernel
theorem dL_setPool_0 : decode cL_setPool 0 = .ok (.aload_n 3, 1) := by decide +kernel
theorem dL_setPool_1 : decode cL_setPool 1 = .ok (.iconst 0, 1) := by decide +kernel
theorem dL_setPool_2 : decode cL_setPool 2 = .ok (.aload_n 0, 1) := by decide +kernel
theorem dL_setPool_3 : decode cL_setPool 3 = .ok (.iload_n 1, 1) := by decide +kernel
theorem dL_setPool_4 : decode cL_setPool 4 = .ok (.iload_n 2, 1) := by decide +kernel
theorem dL_setPool_5 : decode cL_setPool 5 = .ok (.invokevirtual 30, 3) := by decide +kernel
theorem dL_setPool_8 : decode cL_setPool 8 = .ok (.i2l, 1) := by decide +kernel
theorem dL_setPool_9 : decode cL_setPool 9 = .ok (.lastore, 1) := by decide +kernel
theorem dL_setPool_10 : decode cL_setPool 10 = .ok (.goto 11, 3) := by decide +kernel
theorem dL_setPool_13 : decode cL_setPool 13 = .ok (.astore 4, 2) := by decide +kernel
theorem dL_setPool_15 : decode cL_setPool 15 = .ok (.iconst 1, 1) := by decide +kernel
theorem dL_setPool_16 : decode cL_setPool 16 = .ok (.ireturn, 1) := by decide +kernel
theorem dL_setPool_17 : decode cL_setPool 17 = .ok (.astore 4, 2) := by decide +kernel
theorem dL_setPool_19 : decode cL_setPool 19 = .ok (.iconst 2, 1) := by decide +kernel
theorem dL_setPool_20 : decode cL_setPool 20 = .ok (.ireturn, 1) := by decide +kernel
theorem dL_setPool_21 : decode cL_setPool 21 = .ok (.iconst 0, 1) := by decide +kernel
theorem dL_setPool_22 : decode cL_setPool 22 = .ok (.ireturn, 1) := by decide +kernel
theorem dL_entitle_0 : decode cL_entitle 0 = .ok (.aload 7, 2) := by decide +kernel
theorem dL_entitle_2 : decode cL_entitle 2 = .ok (.iconst 0, 1) := by decide +kernel
theorem dL_entitle_3 : decode cL_entitle 3 = .ok (.aload_n 0, 1) := by decide +kernel
theorem dL_entitle_4 : decode cL_entitle 4 = .ok (.iload_n 1, 1) := by decide +kernel
theorem dL_entitle_5 : decode cL_entitle 5 = .ok (.iload_n 2, 1) := by decide +kernel
theorem dL_entitle_6 : decode cL_entitle 6 = .ok (.iload_n 3, 1) := by decide +kernel
theorem dL_entitle_7 : decode cL_entitle 7 = .ok (.iload 4, 2) := by decide +kernel
theorem dL_entitle_9 : decode cL_entitle 9 = .ok (.iload 5, 2) := by decide +kernel
theorem dL_entitle_11 : decode cL_entitle 11 = .ok (.iload 6, 2) := by decide +kernel
theorem dL_entitle_13 : decode cL_entitle 13 = .ok (.invokevirtual 34, 3) := by decide +kernel
theorem dL_entitle_16 : decode cL_entitle 16 = .ok (.i2l, 1) := by decide +kernel
theorem dL_entitle_17 : decode cL_entitle 17 = .ok (.lastore, 1) := by decide +kernel
theorem dL_entitle_18 : decode cL_entitle 18 = .ok (.goto 11, 3) := by decide +kernel
theorem dL_entitle_21 : decode cL_entitle 21 = .ok (.astore 8, 2) := by decide +kernel
theorem dL_entitle_23 : decode cL_entitle 23 = .ok (.iconst 1, 1) := by decide +kernel
theorem dL_entitle_24 : decode cL_entitle 24 = .ok (.ireturn, 1) := by decide +kernel
theorem dL_entitle_25 : decode cL_entitle 25 = .ok (.astore 8, 2) := by decide +kernel
theorem dL_entitle_27 : decode cL_entitle 27 = .ok (.iconst 2, 1) := by decide +kernel
theorem dL_entitle_28 : decode cL_entitle 28 = .ok (.ireturn, 1) := by decide +kernel
theorem dL_entitle_29 : decode cL_entitle 29 = .ok (.iconst 0, 1) := by decide +kernel
theorem dL_entitle_30 : decode cL_entitle 30 = .ok (.ireturn, 1) := by decide +kernel
theorem dL_setRights_0 : decode cL_setRights 0 = .ok (.aload 5, 2) := by decide +kernel
theorem dL_setRights_2 : decode cL_setRights 2 = .ok (.iconst 0, 1) := by decide +kernel
theorem dL_setRights_3 : decode cL_setRights 3 = .ok (.aload_n 0, 1) := by decide +kernel
theorem dL_setRights_4 : decode cL_setRights 4 = .ok (.iload_n 1, 1) := by decide +kernel
theorem dL_setRights_5 : decode cL_setRights 5 = .ok (.iload_n 2, 1) := by decide +kernel
theorem dL_setRights_6 : decode cL_setRights 6 = .ok (.iload_n 3, 1) := by decide +kernel
theorem dL_setRights_7 : decode cL_setRights 7 = .ok (.iload 4, 2) := by decide +kernel
theorem dL_setRights_9 : decode cL_setRights 9 = .ok (.invokevirtual 38, 3) := by decide +kernel
theorem dL_setRights_12 : decode cL_setRights 12 = .ok (.i2l, 1) := by decide +kernel
theorem dL_setRights_13 : decode cL_setRights 13 = .ok (.lastore, 1) := by decide +kernel
theorem dL_setRights_14 : decode cL_setRights 14 = .ok (.goto 7, 3) := by decide +kernel
theorem dL_setRights_17 : decode cL_setRights 17 = .ok (.astore 6, 2) := by decide +kernel
theorem dL_setRights_19 : decode cL_setRights 19 = .ok (.iconst 1, 1) := by decide +kernel
theorem dL_setRights_20 : decode cL_setRights 20 = .ok (.ireturn, 1) := by decide +kernel
theorem dL_setRights_21 : decode cL_setRights 21 = .ok (.iconst 0, 1) := by decide +kernel
theorem dL_setRights_22 : decode cL_setRights 22 = .ok (.ireturn, 1) := by decide +kernel
theorem dL_setMinimum_0 : decode cL_setMinimum 0 = .ok (.aload_n 3, 1) := by decide +kernel
theorem dL_setMinimum_1 : decode cL_setMinimum 1 = .ok (.iconst 0, 1) := by decide +kernel
theorem dL_setMinimum_2 : decode cL_setMinimum 2 = .ok (.aload_n 0, 1) := by decide +kernel
theorem dL_setMinimum_3 : decode cL_setMinimum 3 = .ok (.iload_n 1, 1) := by decide +kernel
theorem dL_setMinimum_4 : decode cL_setMinimum 4 = .ok (.iload_n 2, 1) := by decide +kernel
theorem dL_setMinimum_5 : decode cL_setMinimum 5 = .ok (.invokevirtual 42, 3) := by decide +kernel
theorem dL_setMinimum_8 : decode cL_setMinimum 8 = .ok (.i2l, 1) := by decide +kernel
theorem dL_setMinimum_9 : decode cL_setMinimum 9 = .ok (.lastore, 1) := by decide +kernel
theorem dL_setMinimum_10 : decode cL_setMinimum 10 = .ok (.goto 15, 3) := by decide +kernel
theorem dL_setMinimum_13 : decode cL_setMinimum 13 = .ok (.astore 4, 2) := by decide +kernel
theorem dL_setMinimum_15 : decode cL_setMinimum 15 = .ok (.iconst 1, 1) := by decide +kernel
theorem dL_setMinimum_16 : decode cL_setMinimum 16 = .ok (.ireturn, 1) := by decide +kernel
theorem dL_setMinimum_17 : decode cL_setMinimum 17 = .ok (.astore 4, 2) := by decide +kernel
theorem dL_setMinimum_19 : decode cL_setMinimum 19 = .ok (.iconst 2, 1) := by decide +kernel
theorem dL_setMinimum_20 : decode cL_setMinimum 20 = .ok (.ireturn, 1) := by decide +kernel
theorem dL_setMinimum_21 : decode cL_setMinimum 21 = .ok (.astore 4, 2) := by decide +kernel
theorem dL_setMinimum_23 : decode cL_setMinimum 23 = .ok (.iconst 3, 1) := by decide +kernel
theorem dL_setMinimum_24 : decode cL_setMinimum 24 = .ok (.ireturn, 1) := by decide +kernel
theorem dL_setMinimum_25 : decode cL_setMinimum 25 = .ok (.iconst 0, 1) := by decide +kernel
theorem dL_setMinimum_26 : decode cL_setMinimum 26 = .ok (.ireturn, 1) := by decide +kernel
theorem dL_setPrice_0 : decode cL_setPrice 0 = .ok (.aload_n 3, 1) := by decide +kernel
theorem dL_setPrice_1 : decode cL_setPrice 1 = .ok (.iconst 0, 1) := by decide +kernel
theorem dL_setPrice_2 : decode cL_setPrice 2 = .ok (.aload_n 0, 1) := by decide +kernel
theorem dL_setPrice_3 : decode cL_setPrice 3 = .ok (.iload_n 1, 1) := by decide +kernel
theorem dL_setPrice_4 : decode cL_setPrice 4 = .ok (.iload_n 2, 1) := by decide +kernel
theorem dL_setPrice_5 : decode cL_setPrice 5 = .ok (.invokevirtual 47, 3) := by decide +kernel
theorem dL_setPrice_8 : decode cL_setPrice 8 = .ok (.i2l, 1) := by decide +kernel
theorem dL_setPrice_9 : decode cL_setPrice 9 = .ok (.lastore, 1) := by decide +kernel
theorem dL_setPrice_10 : decode cL_setPrice 10 = .ok (.goto 11, 3) := by decide +kernel
theorem dL_setPrice_13 : decode cL_setPrice 13 = .ok (.astore 4, 2) := by decide +kernel
theorem dL_setPrice_15 : decode cL_setPrice 15 = .ok (.iconst 1, 1) := by decide +kernel
theorem dL_setPrice_16 : decode cL_setPrice 16 = .ok (.ireturn, 1) := by decide +kernel
theorem dL_setPrice_17 : decode cL_setPrice 17 = .ok (.astore 4, 2) := by decide +kernel
theorem dL_setPrice_19 : decode cL_setPrice 19 = .ok (.iconst 2, 1) := by decide +kernel
theorem dL_setPrice_20 : decode cL_setPrice 20 = .ok (.ireturn, 1) := by decide +kernel
theorem dL_setPrice_21 : decode cL_setPrice 21 = .ok (.iconst 0, 1) := by decide +kernel
theorem dL_setPrice_22 : decode cL_setPrice 22 = .ok (.ireturn, 1) := by decide +kernel
theorem dL_addUnits_0 : decode cL_addUnits 0 = .ok (.aload_n 3, 1) := by decide +kernel
theorem dL_addUnits_1 : decode cL_addUnits 1 = .ok (.iconst 0, 1) := by decide +kernel
theorem dL_addUnits_2 : decode cL_addUnits 2 = .ok (.aload_n 0, 1) := by decide +kernel
theorem dL_addUnits_3 : decode cL_addUnits 3 = .ok (.iload_n 1, 1) := by decide +kernel
theorem dL_addUnits_4 : decode cL_addUnits 4 = .ok (.iload_n 2, 1) := by decide +kernel
theorem dL_addUnits_5 : decode cL_addUnits 5 = .ok (.invokevirtual 50, 3) := by decide +kernel
theorem dL_addUnits_8 : decode cL_addUnits 8 = .ok (.i2l, 1) := by decide +kernel
theorem dL_addUnits_9 : decode cL_addUnits 9 = .ok (.lastore, 1) := by decide +kernel
theorem dL_addUnits_10 : decode cL_addUnits 10 = .ok (.goto 15, 3) := by decide +kernel
theorem dL_addUnits_13 : decode cL_addUnits 13 = .ok (.astore 4, 2) := by decide +kernel
theorem dL_addUnits_15 : decode cL_addUnits 15 = .ok (.iconst 1, 1) := by decide +kernel
theorem dL_addUnits_16 : decode cL_addUnits 16 = .ok (.ireturn, 1) := by decide +kernel
theorem dL_addUnits_17 : decode cL_addUnits 17 = .ok (.astore 4, 2) := by decide +kernel
theorem dL_addUnits_19 : decode cL_addUnits 19 = .ok (.iconst 2, 1) := by decide +kernel
theorem dL_addUnits_20 : decode cL_addUnits 20 = .ok (.ireturn, 1) := by decide +kernel
theorem dL_addUnits_21 : decode cL_addUnits 21 = .ok (.astore 4, 2) := by decide +kernel
theorem dL_addUnits_23 : decode cL_addUnits 23 = .ok (.iconst 3, 1) := by decide +kernel
theorem dL_addUnits_24 : decode cL_addUnits 24 = .ok (.ireturn, 1) := by decide +kernel
theorem dL_addUnits_25 : decode cL_addUnits 25 = .ok (.iconst 0, 1) := by decide +kernel
theorem dL_addUnits_26 : decode cL_addUnits 26 = .ok (.ireturn, 1) := by decide +kernel
theorem dL_units_0 : decode cL_units 0 = .ok (.aload_n 2, 1) := by decide +kernel
theorem dL_units_1 : decode cL_units 1 = .ok (.iconst 0, 1) := by decide +kernel
theorem dL_units_2 : decode cL_units 2 = .ok (.aload_n 0, 1) := by decide +kernel
theorem dL_units_3 : decode cL_units 3 = .ok (.iload_n 1, 1) := by decide +kernel
theorem dL_units_4 : decode cL_units 4 = .ok (.invokevirtual 53, 3) := by decide +kernel
theorem dL_units_7 : decode cL_units 7 = .ok (.i2l, 1) := by decide +kernel
theorem dL_units_8 : decode cL_units 8 = .ok (.lastore, 1) := by decide +kernel
theorem dL_units_9 : decode cL_units 9 = .ok (.goto 6, 3) := by decide +kernel
theorem dL_units_12 : decode cL_units 12 = .ok (.astore_n 3, 1) := by decide +kernel
theorem dL_units_13 : decode cL_units 13 = .ok (.iconst 1, 1) := by decide +kernel
theorem dL_units_14 : decode cL_units 14 = .ok (.ireturn, 1) := by decide +kernel
theorem dL_units_15 : decode cL_units 15 = .ok (.iconst 0, 1) := by decide +kernel
theorem dL_units_16 : decode cL_units 16 = .ok (.ireturn, 1) := by decide +kernel
theorem dL_why_0 : decode cL_why 0 = .ok (.aload_n 3, 1) := by decide +kernel
theorem dL_why_1 : decode cL_why 1 = .ok (.iconst 0, 1) := by decide +kernel
theorem dL_why_2 : decode cL_why 2 = .ok (.aload_n 0, 1) := by decide +kernel
theorem dL_why_3 : decode cL_why 3 = .ok (.iload_n 1, 1) := by decide +kernel
theorem dL_why_4 : decode cL_why 4 = .ok (.iload_n 2, 1) := by decide +kernel
theorem dL_why_5 : decode cL_why 5 = .ok (.invokevirtual 56, 3) := by decide +kernel
theorem dL_why_8 : decode cL_why 8 = .ok (.i2l, 1) := by decide +kernel
theorem dL_why_9 : decode cL_why 9 = .ok (.lastore, 1) := by decide +kernel
theorem dL_why_10 : decode cL_why 10 = .ok (.goto 7, 3) := by decide +kernel
theorem dL_why_13 : decode cL_why 13 = .ok (.astore 4, 2) := by decide +kernel
theorem dL_why_15 : decode cL_why 15 = .ok (.iconst 1, 1) := by decide +kernel
theorem dL_why_16 : decode cL_why 16 = .ok (.ireturn, 1) := by decide +kernel
theorem dL_why_17 : decode cL_why 17 = .ok (.iconst 0, 1) := by decide +kernel
theorem dL_why_18 : decode cL_why 18 = .ok (.ireturn, 1) := by decide +kernel
theorem dL_fitting_0 : decode cL_fitting 0 = .ok (.aload_n 2, 1) := by decide +kernel
theorem dL_fitting_1 : decode cL_fitting 1 = .ok (.iconst 0, 1) := by decide +kernel
theorem dL_fitting_2 : decode cL_fitting 2 = .ok (.aload_n 0, 1) := by decide +kernel
theorem dL_fitting_3 : decode cL_fitting 3 = .ok (.iload_n 1, 1) := by decide +kernel
theorem dL_fitting_4 : decode cL_fitting 4 = .ok (.invokevirtual 60, 3) := by decide +kernel
theorem dL_fitting_7 : decode cL_fitting 7 = .ok (.i2l, 1) := by decide +kernel
theorem dL_fitting_8 : decode cL_fitting 8 = .ok (.lastore, 1) := by decide +kernel
theorem dL_fitting_9 : decode cL_fitting 9 = .ok (.goto 6, 3) := by decide +kernel
theorem dL_fitting_12 : decode cL_fitting 12 = .ok (.astore_n 3, 1) := by decide +kernel
theorem dL_fitting_13 : decode cL_fitting 13 = .ok (.iconst 1, 1) := by decide +kernel
theorem dL_fitting_14 : decode cL_fitting 14 = .ok (.ireturn, 1) := by decide +kernel
theorem dL_fitting_15 : decode cL_fitting 15 = .ok (.iconst 0, 1) := by decide +kernel
theorem dL_fitting_16 : decode cL_fitting 16 = .ok (.ireturn, 1) := by decide +kernel
theorem dL_firstFitting_0 : decode cL_firstFitting 0 = .ok (.aload_n 2, 1) := by decide +kernel
theorem dL_firstFitting_1 : decode cL_firstFitting 1 = .ok (.iconst 0, 1) := by decide +kernel
theorem dL_firstFitting_2 : decode cL_firstFitting 2 = .ok (.aload_n 0, 1) := by decide +kernel
theorem dL_firstFitting_3 : decode cL_firstFitting 3 = .ok (.iload_n 1, 1) := by decide +kernel
theorem dL_firstFitting_4 : decode cL_firstFitting 4 = .ok (.invokevirtual 63, 3) := by decide +kernel
theorem dL_firstFitting_7 : decode cL_firstFitting 7 = .ok (.i2l, 1) := by decide +kernel
theorem dL_firstFitting_8 : decode cL_firstFitting 8 = .ok (.lastore, 1) := by decide +kernel
theorem dL_firstFitting_9 : decode cL_firstFitting 9 = .ok (.goto 9, 3) := by decide +kernel
theorem dL_firstFitting_12 : decode cL_firstFitting 12 = .ok (.astore_n 3, 1) := by decide +kernel
theorem dL_firstFitting_13 : decode cL_firstFitting 13 = .ok (.iconst 1, 1) := by decide +kernel
theorem dL_firstFitting_14 : decode cL_firstFitting 14 = .ok (.ireturn, 1) := by decide +kernel
theorem dL_firstFitting_15 : decode cL_firstFitting 15 = .ok (.astore_n 3, 1) := by decide +kernel
theorem dL_firstFitting_16 : decode cL_firstFitting 16 = .ok (.iconst 2, 1) := by decide +kernel
theorem dL_firstFitting_17 : decode cL_firstFitting 17 = .ok (.ireturn, 1) := by decide +kernel
theorem dL_firstFitting_18 : decode cL_firstFitting 18 = .ok (.iconst 0, 1) := by decide +kernel
theorem dL_firstFitting_19 : decode cL_firstFitting 19 = .ok (.ireturn, 1) := by decide +kernel
theorem dL_unitsForAll_0 : decode cL_unitsForAll 0 = .ok (.aload_n 2, 1) := by decide +kernel
theorem dL_unitsForAll_1 : decode cL_unitsForAll 1 = .ok (.iconst 0, 1) := by decide +kernel
theorem dL_unitsForAll_2 : decode cL_unitsForAll 2 = .ok (.aload_n 0, 1) := by decide +kernel
theorem dL_unitsForAll_3 : decode cL_unitsForAll 3 = .ok (.iload_n 1, 1) := by decide +kernel
theorem dL_unitsForAll_4 : decode cL_unitsForAll 4 = .ok (.invokevirtual 68, 3) := by decide +kernel
theorem dL_unitsForAll_7 : decode cL_unitsForAll 7 = .ok (.i2l, 1) := by decide +kernel
theorem dL_unitsForAll_8 : decode cL_unitsForAll 8 = .ok (.lastore, 1) := by decide +kernel
theorem dL_unitsForAll_9 : decode cL_unitsForAll 9 = .ok (.goto 6, 3) := by decide +kernel
theorem dL_unitsForAll_12 : decode cL_unitsForAll 12 = .ok (.astore_n 3, 1) := by decide +kernel
theorem dL_unitsForAll_13 : decode cL_unitsForAll 13 = .ok (.iconst 1, 1) := by decide +kernel
theorem dL_unitsForAll_14 : decode cL_unitsForAll 14 = .ok (.ireturn, 1) := by decide +kernel
theorem dL_unitsForAll_15 : decode cL_unitsForAll 15 = .ok (.iconst 0, 1) := by decide +kernel
theorem dL_unitsForAll_16 : decode cL_unitsForAll 16 = .ok (.ireturn, 1) := by decide +kernel
theorem dL_coveredByTrying_0 : decode cL_coveredByTrying 0 = .ok (.aload_n 1, 1) := by decide +kernel
theorem dL_coveredByTrying_1 : decode cL_coveredByTrying 1 = .ok (.iconst 0, 1) := by decide +kernel
theorem dL_coveredByTrying_2 : decode cL_coveredByTrying 2 = .ok (.aload_n 0, 1) := by decide +kernel
theorem dL_coveredByTrying_3 : decode cL_coveredByTrying 3 = .ok (.invokevirtual 71, 3) := by decide +kernel
theorem dL_coveredByTrying_6 : decode cL_coveredByTrying 6 = .ok (.i2l, 1) := by decide +kernel
theorem dL_coveredByTrying_7 : decode cL_coveredByTrying 7 = .ok (.lastore, 1) := by decide +kernel
theorem dL_coveredByTrying_8 : decode cL_coveredByTrying 8 = .ok (.goto 6, 3) := by decide +kernel
theorem dL_coveredByTrying_11 : decode cL_coveredByTrying 11 = .ok (.astore_n 2, 1) := by decide +kernel
theorem dL_coveredByTrying_12 : decode cL_coveredByTrying 12 = .ok (.iconst 1, 1) := by decide +kernel
theorem dL_coveredByTrying_13 : decode cL_coveredByTrying 13 = .ok (.ireturn, 1) := by decide +kernel
theorem dL_coveredByTrying_14 : decode cL_coveredByTrying 14 = .ok (.iconst 0, 1) := by decide +kernel
theorem dL_coveredByTrying_15 : decode cL_coveredByTrying 15 = .ok (.ireturn, 1) := by decide +kernel
theorem dL_entitlementOf_0 : decode cL_entitlementOf 0 = .ok (.aload_n 2, 1) := by decide +kernel
theorem dL_entitlementOf_1 : decode cL_entitlementOf 1 = .ok (.iconst 0, 1) := by decide +kernel
theorem dL_entitlementOf_2 : decode cL_entitlementOf 2 = .ok (.aload_n 0, 1) := by decide +kernel
theorem dL_entitlementOf_3 : decode cL_entitlementOf 3 = .ok (.iload_n 1, 1) := by decide +kernel
theorem dL_entitlementOf_4 : decode cL_entitlementOf 4 = .ok (.invokevirtual 75, 3) := by decide +kernel
theorem dL_entitlementOf_7 : decode cL_entitlementOf 7 = .ok (.i2l, 1) := by decide +kernel
theorem dL_entitlementOf_8 : decode cL_entitlementOf 8 = .ok (.lastore, 1) := by decide +kernel
theorem dL_entitlementOf_9 : decode cL_entitlementOf 9 = .ok (.goto 9, 3) := by decide +kernel
theorem dL_entitlementOf_12 : decode cL_entitlementOf 12 = .ok (.astore_n 3, 1) := by decide +kernel
theorem dL_entitlementOf_13 : decode cL_entitlementOf 13 = .ok (.iconst 1, 1) := by decide +kernel
theorem dL_entitlementOf_14 : decode cL_entitlementOf 14 = .ok (.ireturn, 1) := by decide +kernel
theorem dL_entitlementOf_15 : decode cL_entitlementOf 15 = .ok (.astore_n 3, 1) := by decide +kernel
theorem dL_entitlementOf_16 : decode cL_entitlementOf 16 = .ok (.iconst 2, 1) := by decide +kernel
theorem dL_entitlementOf_17 : decode cL_entitlementOf 17 = .ok (.ireturn, 1) := by decide +kernel
theorem dL_entitlementOf_18 : decode cL_entitlementOf 18 = .ok (.iconst 0, 1) := by decide +kernel
theorem dL_entitlementOf_19 : decode cL_entitlementOf 19 = .ok (.ireturn, 1) := by decide +kernel
theorem dL_reason_0 : decode cL_reason 0 = .ok (.aload_n 2, 1) := by decide +kernel
theorem dL_reason_1 : decode cL_reason 1 = .ok (.iconst 0, 1) := by decide +kernel
theorem dL_reason_2 : decode cL_reason 2 = .ok (.aload_n 0, 1) := by decide +kernel
theorem dL_reason_3 : decode cL_reason 3 = .ok (.iload_n 1, 1) := by decide +kernel
theorem dL_reason_4 : decode cL_reason 4 = .ok (.invokevirtual 78, 3) := by decide +kernel
theorem dL_reason_7 : decode cL_reason 7 = .ok (.i2l, 1) := by decide +kernel
theorem dL_reason_8 : decode cL_reason 8 = .ok (.lastore, 1) := by decide +kernel
theorem dL_reason_9 : decode cL_reason 9 = .ok (.goto 6, 3) := by decide +kernel
theorem dL_reason_12 : decode cL_reason 12 = .ok (.astore_n 3, 1) := by decide +kernel
theorem dL_reason_13 : decode cL_reason 13 = .ok (.iconst 1, 1) := by decide +kernel
theorem dL_reason_14 : decode cL_reason 14 = .ok (.ireturn, 1) := by decide +kernel
theorem dL_reason_15 : decode cL_reason 15 = .ok (.iconst 0, 1) := by decide +kernel
theorem dL_reason_16 : decode cL_reason 16 = .ok (.ireturn, 1) := by decide +kernel
theorem dL_used_0 : decode cL_used 0 = .ok (.aload_n 2, 1) := by decide +kernel
theorem dL_used_1 : decode cL_used 1 = .ok (.iconst 0, 1) := by decide +kernel
theorem dL_used_2 : decode cL_used 2 = .ok (.aload_n 0, 1) := by decide +kernel
theorem dL_used_3 : decode cL_used 3 = .ok (.iload_n 1, 1) := by decide +kernel
theorem dL_used_4 : decode cL_used 4 = .ok (.invokevirtual 82, 3) := by decide +kernel
theorem dL_used_7 : decode cL_used 7 = .ok (.i2l, 1) := by decide +kernel
theorem dL_used_8 : decode cL_used 8 = .ok (.lastore, 1) := by decide +kernel
theorem dL_used_9 : decode cL_used 9 = .ok (.goto 6, 3) := by decide +kernel
theorem dL_used_12 : decode cL_used 12 = .ok (.astore_n 3, 1) := by decide +kernel
theorem dL_used_13 : decode cL_used 13 = .ok (.iconst 1, 1) := by decide +kernel
theorem dL_used_14 : decode cL_used 14 = .ok (.ireturn, 1) := by decide +kernel
theorem dL_used_15 : decode cL_used 15 = .ok (.iconst 0, 1) := by decide +kernel
theorem dL_used_16 : decode cL_used 16 = .ok (.ireturn, 1) := by decide +kernel
theorem dL_spare_0 : decode cL_spare 0 = .ok (.aload_n 2, 1) := by decide +kernel
theorem dL_spare_1 : decode cL_spare 1 = .ok (.iconst 0, 1) := by decide +kernel
theorem dL_spare_2 : decode cL_spare 2 = .ok (.aload_n 0, 1) := by decide +kernel
theorem dL_spare_3 : decode cL_spare 3 = .ok (.iload_n 1, 1) := by decide +kernel
theorem dL_spare_4 : decode cL_spare 4 = .ok (.invokevirtual 85, 3) := by decide +kernel
theorem dL_spare_7 : decode cL_spare 7 = .ok (.i2l, 1) := by decide +kernel
theorem dL_spare_8 : decode cL_spare 8 = .ok (.lastore, 1) := by decide +kernel
theorem dL_spare_9 : decode cL_spare 9 = .ok (.goto 6, 3) := by decide +kernel
theorem dL_spare_12 : decode cL_spare 12 = .ok (.astore_n 3, 1) := by decide +kernel
theorem dL_spare_13 : decode cL_spare 13 = .ok (.iconst 1, 1) := by decide +kernel
theorem dL_spare_14 : decode cL_spare 14 = .ok (.ireturn, 1) := by decide +kernel
theorem dL_spare_15 : decode cL_spare 15 = .ok (.iconst 0, 1) := by decide +kernel
theorem dL_spare_16 : decode cL_spare 16 = .ok (.ireturn, 1) := by decide +kernel
theorem dL_purchase_0 : decode cL_purchase 0 = .ok (.aload_n 1, 1) := by decide +kernel
theorem dL_purchase_1 : decode cL_purchase 1 = .ok (.iconst 0, 1) := by decide +kernel
theorem dL_purchase_2 : decode cL_purchase 2 = .ok (.aload_n 0, 1) := by decide +kernel
theorem dL_purchase_3 : decode cL_purchase 3 = .ok (.invokevirtual 88, 3) := by decide +kernel
theorem dL_purchase_6 : decode cL_purchase 6 = .ok (.i2l, 1) := by decide +kernel
theorem dL_purchase_7 : decode cL_purchase 7 = .ok (.lastore, 1) := by decide +kernel
theorem dL_purchase_8 : decode cL_purchase 8 = .ok (.goto 6, 3) := by decide +kernel
theorem dL_purchase_11 : decode cL_purchase 11 = .ok (.astore_n 2, 1) := by decide +kernel
theorem dL_purchase_12 : decode cL_purchase 12 = .ok (.iconst 1, 1) := by decide +kernel
theorem dL_purchase_13 : decode cL_purchase 13 = .ok (.ireturn, 1) := by decide +kernel
theorem dL_purchase_14 : decode cL_purchase 14 = .ok (.iconst 0, 1) := by decide +kernel
theorem dL_purchase_15 : decode cL_purchase 15 = .ok (.ireturn, 1) := by decide +kernel
theorem dL_purchaseByTrying_0 : decode cL_purchaseByTrying 0 = .ok (.aload_n 1, 1) := by decide +kernel
theorem dL_purchaseByTrying_1 : decode cL_purchaseByTrying 1 = .ok (.iconst 0, 1) := by decide +kernel
theorem dL_purchaseByTrying_2 : decode cL_purchaseByTrying 2 = .ok (.aload_n 0, 1) := by decide +kernel
theorem dL_purchaseByTrying_3 : decode cL_purchaseByTrying 3 = .ok (.invokevirtual 91, 3) := by decide +kernel
theorem dL_purchaseByTrying_6 : decode cL_purchaseByTrying 6 = .ok (.i2l, 1) := by decide +kernel
theorem dL_purchaseByTrying_7 : decode cL_purchaseByTrying 7 = .ok (.lastore, 1) := by decide +kernel
theorem dL_purchaseByTrying_8 : decode cL_purchaseByTrying 8 = .ok (.goto 9, 3) := by decide +kernel
theorem dL_purchaseByTrying_11 : decode cL_purchaseByTrying 11 = .ok (.astore_n 2, 1) := by decide +kernel
theorem dL_purchaseByTrying_12 : decode cL_purchaseByTrying 12 = .ok (.iconst 1, 1) := by decide +kernel
theorem dL_purchaseByTrying_13 : decode cL_purchaseByTrying 13 = .ok (.ireturn, 1) := by decide +kernel
theorem dL_purchaseByTrying_14 : decode cL_purchaseByTrying 14 = .ok (.astore_n 2, 1) := by decide +kernel
theorem dL_purchaseByTrying_15 : decode cL_purchaseByTrying 15 = .ok (.iconst 2, 1) := by decide +kernel
theorem dL_purchaseByTrying_16 : decode cL_purchaseByTrying 16 = .ok (.ireturn, 1) := by decide +kernel
theorem dL_purchaseByTrying_17 : decode cL_purchaseByTrying 17 = .ok (.iconst 0, 1) := by decide +kernel
theorem dL_purchaseByTrying_18 : decode cL_purchaseByTrying 18 = .ok (.ireturn, 1) := by decide +kernel
theorem dL_toBuy_0 : decode cL_toBuy 0 = .ok (.aload_n 2, 1) := by decide +kernel
theorem dL_toBuy_1 : decode cL_toBuy 1 = .ok (.iconst 0, 1) := by decide +kernel
theorem dL_toBuy_2 : decode cL_toBuy 2 = .ok (.aload_n 0, 1) := by decide +kernel
theorem dL_toBuy_3 : decode cL_toBuy 3 = .ok (.iload_n 1, 1) := by decide +kernel
theorem dL_toBuy_4 : decode cL_toBuy 4 = .ok (.invokevirtual 94, 3) := by decide +kernel
theorem dL_toBuy_7 : decode cL_toBuy 7 = .ok (.i2l, 1) := by decide +kernel
theorem dL_toBuy_8 : decode cL_toBuy 8 = .ok (.lastore, 1) := by decide +kernel
theorem dL_toBuy_9 : decode cL_toBuy 9 = .ok (.goto 9, 3) := by decide +kernel
theorem dL_toBuy_12 : decode cL_toBuy 12 = .ok (.astore_n 3, 1) := by decide +kernel
theorem dL_toBuy_13 : decode cL_toBuy 13 = .ok (.iconst 1, 1) := by decide +kernel
theorem dL_toBuy_14 : decode cL_toBuy 14 = .ok (.ireturn, 1) := by decide +kernel
theorem dL_toBuy_15 : decode cL_toBuy 15 = .ok (.astore_n 3, 1) := by decide +kernel
theorem dL_toBuy_16 : decode cL_toBuy 16 = .ok (.iconst 2, 1) := by decide +kernel
theorem dL_toBuy_17 : decode cL_toBuy 17 = .ok (.ireturn, 1) := by decide +kernel
theorem dL_toBuy_18 : decode cL_toBuy 18 = .ok (.iconst 0, 1) := by decide +kernel
theorem dL_toBuy_19 : decode cL_toBuy 19 = .ok (.ireturn, 1) := by decide +kernel
theorem dL_trueUp_0 : decode cL_trueUp 0 = .ok (.aload_n 1, 1) := by decide +kernel
theorem dL_trueUp_1 : decode cL_trueUp 1 = .ok (.iconst 0, 1) := by decide +kernel
theorem dL_trueUp_2 : decode cL_trueUp 2 = .ok (.aload_n 0, 1) := by decide +kernel
theorem dL_trueUp_3 : decode cL_trueUp 3 = .ok (.invokevirtual 97, 3) := by decide +kernel
theorem dL_trueUp_6 : decode cL_trueUp 6 = .ok (.i2l, 1) := by decide +kernel
theorem dL_trueUp_7 : decode cL_trueUp 7 = .ok (.lastore, 1) := by decide +kernel
theorem dL_trueUp_8 : decode cL_trueUp 8 = .ok (.goto 6, 3) := by decide +kernel
theorem dL_trueUp_11 : decode cL_trueUp 11 = .ok (.astore_n 2, 1) := by decide +kernel
theorem dL_trueUp_12 : decode cL_trueUp 12 = .ok (.iconst 1, 1) := by decide +kernel
theorem dL_trueUp_13 : decode cL_trueUp 13 = .ok (.ireturn, 1) := by decide +kernel
theorem dL_trueUp_14 : decode cL_trueUp 14 = .ok (.iconst 0, 1) := by decide +kernel
theorem dL_trueUp_15 : decode cL_trueUp 15 = .ok (.ireturn, 1) := by decide +kernel
theorem dL_coverage_0 : decode cL_coverage 0 = .ok (.aload_n 1, 1) := by decide +kernel
theorem dL_coverage_1 : decode cL_coverage 1 = .ok (.iconst 0, 1) := by decide +kernel
theorem dL_coverage_2 : decode cL_coverage 2 = .ok (.aload_n 0, 1) := by decide +kernel
theorem dL_coverage_3 : decode cL_coverage 3 = .ok (.invokevirtual 100, 3) := by decide +kernel
theorem dL_coverage_6 : decode cL_coverage 6 = .ok (.f2d, 1) := by decide +kernel
theorem dL_coverage_7 : decode cL_coverage 7 = .ok (.dastore, 1) := by decide +kernel
theorem dL_coverage_8 : decode cL_coverage 8 = .ok (.goto 6, 3) := by decide +kernel
theorem dL_coverage_11 : decode cL_coverage 11 = .ok (.astore_n 2, 1) := by decide +kernel
theorem dL_coverage_12 : decode cL_coverage 12 = .ok (.iconst 1, 1) := by decide +kernel
theorem dL_coverage_13 : decode cL_coverage 13 = .ok (.ireturn, 1) := by decide +kernel
theorem dL_coverage_14 : decode cL_coverage 14 = .ok (.iconst 0, 1) := by decide +kernel
theorem dL_coverage_15 : decode cL_coverage 15 = .ok (.ireturn, 1) := by decide +kernel
theorem dL_law_0 : decode cL_law 0 = .ok (.new 8, 3) := by decide +kernel
theorem dL_law_3 : decode cL_law 3 = .ok (.dup, 1) := by decide +kernel
theorem dL_law_4 : decode cL_law 4 = .ok (.invokespecial 104, 3) := by decide +kernel
theorem dL_law_7 : decode cL_law 7 = .ok (.astore_n 1, 1) := by decide +kernel
theorem dL_law_8 : decode cL_law 8 = .ok (.new 105, 3) := by decide +kernel
theorem dL_law_11 : decode cL_law 11 = .ok (.dup, 1) := by decide +kernel
theorem dL_law_12 : decode cL_law 12 = .ok (.invokespecial 107, 3) := by decide +kernel
theorem dL_law_15 : decode cL_law 15 = .ok (.astore_n 2, 1) := by decide +kernel
theorem dL_law_16 : decode cL_law 16 = .ok (.iconst 1, 1) := by decide +kernel
theorem dL_law_17 : decode cL_law 17 = .ok (.newarray .long, 2) := by decide +kernel
theorem dL_law_19 : decode cL_law 19 = .ok (.astore_n 3, 1) := by decide +kernel
theorem dL_law_20 : decode cL_law 20 = .ok (.iconst 1, 1) := by decide +kernel
theorem dL_law_21 : decode cL_law 21 = .ok (.newarray .double, 2) := by decide +kernel
theorem dL_law_23 : decode cL_law 23 = .ok (.astore 4, 2) := by decide +kernel
theorem dL_law_25 : decode cL_law 25 = .ok (.iconst 0, 1) := by decide +kernel
theorem dL_law_26 : decode cL_law 26 = .ok (.istore 5, 2) := by decide +kernel
theorem dL_law_28 : decode cL_law 28 = .ok (.iload 5, 2) := by decide +kernel
theorem dL_law_30 : decode cL_law 30 = .ok (.aload_n 0, 1) := by decide +kernel
theorem dL_law_31 : decode cL_law 31 = .ok (.arraylength, 1) := by decide +kernel
theorem dL_law_32 : decode cL_law 32 = .ok (.bipush 8, 2) := by decide +kernel
theorem dL_law_34 : decode cL_law 34 = .ok (.isub, 1) := by decide +kernel
theorem dL_law_35 : decode cL_law 35 = .ok (.if_icmp .gt 1906, 3) := by decide +kernel
theorem dL_law_38 : decode cL_law 38 = .ok (.aload_n 0, 1) := by decide +kernel
theorem dL_law_39 : decode cL_law 39 = .ok (.iload 5, 2) := by decide +kernel
theorem dL_law_41 : decode cL_law 41 = .ok (.iaload, 1) := by decide +kernel
theorem dL_law_42 : decode cL_law 42 = .ok (.bipush 31, 2) := by decide +kernel
theorem dL_law_44 : decode cL_law 44 = .ok (.iand, 1) := by decide +kernel
theorem dL_law_45 : decode cL_law 45 = .ok (.tableswitch 1890 0 28 #[131, 263, 319, 399, 479, 547, 560, 585, 705, 845, 913, 981, 1049, 1105, 1173, 1229, 1285, 1341, 1354, 1398, 1454, 1510, 1566, 1622, 1666, 1710, 1766, 1810, 1824], 131) := by decide +kernel
theorem dL_law_176 : decode cL_law 176 = .ok (.aload_n 1, 1) := by decide +kernel
theorem dL_law_177 : decode cL_law 177 = .ok (.aload_n 0, 1) := by decide +kernel
theorem dL_law_178 : decode cL_law 178 = .ok (.iload 5, 2) := by decide +kernel
theorem dL_law_180 : decode cL_law 180 = .ok (.iconst 1, 1) := by decide +kernel
theorem dL_law_181 : decode cL_law 181 = .ok (.iadd, 1) := by decide +kernel
theorem dL_law_182 : decode cL_law 182 = .ok (.iaload, 1) := by decide +kernel
theorem dL_law_183 : decode cL_law 183 = .ok (.aload_n 0, 1) := by decide +kernel
theorem dL_law_184 : decode cL_law 184 = .ok (.iload 5, 2) := by decide +kernel
theorem dL_law_186 : decode cL_law 186 = .ok (.iconst 2, 1) := by decide +kernel
theorem dL_law_187 : decode cL_law 187 = .ok (.iadd, 1) := by decide +kernel
theorem dL_law_188 : decode cL_law 188 = .ok (.iaload, 1) := by decide +kernel
theorem dL_law_189 : decode cL_law 189 = .ok (.aload_n 0, 1) := by decide +kernel
theorem dL_law_190 : decode cL_law 190 = .ok (.iload 5, 2) := by decide +kernel
theorem dL_law_192 : decode cL_law 192 = .ok (.iconst 3, 1) := by decide +kernel
theorem dL_law_193 : decode cL_law 193 = .ok (.iadd, 1) := by decide +kernel
theorem dL_law_194 : decode cL_law 194 = .ok (.iaload, 1) := by decide +kernel
theorem dL_law_195 : decode cL_law 195 = .ok (.aload_n 0, 1) := by decide +kernel
theorem dL_law_196 : decode cL_law 196 = .ok (.iload 5, 2) := by decide +kernel
theorem dL_law_198 : decode cL_law 198 = .ok (.iconst 4, 1) := by decide +kernel
theorem dL_law_199 : decode cL_law 199 = .ok (.iadd, 1) := by decide +kernel
theorem dL_law_200 : decode cL_law 200 = .ok (.iaload, 1) := by decide +kernel
theorem dL_law_201 : decode cL_law 201 = .ok (.aload_n 0, 1) := by decide +kernel
theorem dL_law_202 : decode cL_law 202 = .ok (.iload 5, 2) := by decide +kernel
theorem dL_law_204 : decode cL_law 204 = .ok (.iconst 5, 1) := by decide +kernel
theorem dL_law_205 : decode cL_law 205 = .ok (.iadd, 1) := by decide +kernel
theorem dL_law_206 : decode cL_law 206 = .ok (.iaload, 1) := by decide +kernel
theorem dL_law_207 : decode cL_law 207 = .ok (.aload_n 0, 1) := by decide +kernel
theorem dL_law_208 : decode cL_law 208 = .ok (.iload 5, 2) := by decide +kernel
theorem dL_law_210 : decode cL_law 210 = .ok (.bipush 6, 2) := by decide +kernel
theorem dL_law_212 : decode cL_law 212 = .ok (.iadd, 1) := by decide +kernel
theorem dL_law_213 : decode cL_law 213 = .ok (.iaload, 1) := by decide +kernel
theorem dL_law_214 : decode cL_law 214 = .ok (.aload_n 0, 1) := by decide +kernel
theorem dL_law_215 : decode cL_law 215 = .ok (.iload 5, 2) := by decide +kernel
theorem dL_law_217 : decode cL_law 217 = .ok (.bipush 7, 2) := by decide +kernel
theorem dL_law_219 : decode cL_law 219 = .ok (.iadd, 1) := by decide +kernel
theorem dL_law_220 : decode cL_law 220 = .ok (.iaload, 1) := by decide +kernel
theorem dL_law_221 : decode cL_law 221 = .ok (.aload_n 3, 1) := by decide +kernel
theorem dL_law_222 : decode cL_law 222 = .ok (.invokestatic 108, 3) := by decide +kernel
theorem dL_law_225 : decode cL_law 225 = .ok (.istore 6, 2) := by decide +kernel
theorem dL_law_227 : decode cL_law 227 = .ok (.aload_n 2, 1) := by decide +kernel
theorem dL_law_228 : decode cL_law 228 = .ok (.aload_n 0, 1) := by decide +kernel
theorem dL_law_229 : decode cL_law 229 = .ok (.iload 5, 2) := by decide +kernel
theorem dL_law_231 : decode cL_law 231 = .ok (.iconst 1, 1) := by decide +kernel
theorem dL_law_232 : decode cL_law 232 = .ok (.iadd, 1) := by decide +kernel
theorem dL_law_233 : decode cL_law 233 = .ok (.iaload, 1) := by decide +kernel
theorem dL_law_234 : decode cL_law 234 = .ok (.aload_n 0, 1) := by decide +kernel
theorem dL_law_235 : decode cL_law 235 = .ok (.iload 5, 2) := by decide +kernel
theorem dL_law_237 : decode cL_law 237 = .ok (.iconst 2, 1) := by decide +kernel
theorem dL_law_238 : decode cL_law 238 = .ok (.iadd, 1) := by decide +kernel
theorem dL_law_239 : decode cL_law 239 = .ok (.iaload, 1) := by decide +kernel
theorem dL_law_240 : decode cL_law 240 = .ok (.aload_n 0, 1) := by decide +kernel
theorem dL_law_241 : decode cL_law 241 = .ok (.iload 5, 2) := by decide +kernel
theorem dL_law_243 : decode cL_law 243 = .ok (.iconst 3, 1) := by decide +kernel
theorem dL_law_244 : decode cL_law 244 = .ok (.iadd, 1) := by decide +kernel
theorem dL_law_245 : decode cL_law 245 = .ok (.iaload, 1) := by decide +kernel
theorem dL_law_246 : decode cL_law 246 = .ok (.aload_n 0, 1) := by decide +kernel
theorem dL_law_247 : decode cL_law 247 = .ok (.iload 5, 2) := by decide +kernel
theorem dL_law_249 : decode cL_law 249 = .ok (.iconst 4, 1) := by decide +kernel
theorem dL_law_250 : decode cL_law 250 = .ok (.iadd, 1) := by decide +kernel
theorem dL_law_251 : decode cL_law 251 = .ok (.iaload, 1) := by decide +kernel
theorem dL_law_252 : decode cL_law 252 = .ok (.aload_n 0, 1) := by decide +kernel
theorem dL_law_253 : decode cL_law 253 = .ok (.iload 5, 2) := by decide +kernel
theorem dL_law_255 : decode cL_law 255 = .ok (.iconst 5, 1) := by decide +kernel
theorem dL_law_256 : decode cL_law 256 = .ok (.iadd, 1) := by decide +kernel
theorem dL_law_257 : decode cL_law 257 = .ok (.iaload, 1) := by decide +kernel
theorem dL_law_258 : decode cL_law 258 = .ok (.aload_n 0, 1) := by decide +kernel
theorem dL_law_259 : decode cL_law 259 = .ok (.iload 5, 2) := by decide +kernel
theorem dL_law_261 : decode cL_law 261 = .ok (.bipush 6, 2) := by decide +kernel
theorem dL_law_263 : decode cL_law 263 = .ok (.iadd, 1) := by decide +kernel
theorem dL_law_264 : decode cL_law 264 = .ok (.iaload, 1) := by decide +kernel
theorem dL_law_265 : decode cL_law 265 = .ok (.aload_n 0, 1) := by decide +kernel
theorem dL_law_266 : decode cL_law 266 = .ok (.iload 5, 2) := by decide +kernel
theorem dL_law_268 : decode cL_law 268 = .ok (.bipush 7, 2) := by decide +kernel
theorem dL_law_270 : decode cL_law 270 = .ok (.iadd, 1) := by decide +kernel
theorem dL_law_271 : decode cL_law 271 = .ok (.iaload, 1) := by decide +kernel
theorem dL_law_272 : decode cL_law 272 = .ok (.invokevirtual 113, 3) := by decide +kernel
theorem dL_law_275 : decode cL_law 275 = .ok (.istore 7, 2) := by decide +kernel
theorem dL_law_277 : decode cL_law 277 = .ok (.aload_n 2, 1) := by decide +kernel
theorem dL_law_278 : decode cL_law 278 = .ok (.invokevirtual 114, 3) := by decide +kernel
theorem dL_law_281 : decode cL_law 281 = .ok (.iload 6, 2) := by decide +kernel
theorem dL_law_283 : decode cL_law 283 = .ok (.if_icmp .eq 5, 3) := by decide +kernel
theorem dL_law_286 : decode cL_law 286 = .ok (.iconst 0, 1) := by decide +kernel
theorem dL_law_287 : decode cL_law 287 = .ok (.ireturn, 1) := by decide +kernel
theorem dL_law_288 : decode cL_law 288 = .ok (.iload 6, 2) := by decide +kernel
theorem dL_law_290 : decode cL_law 290 = .ok (.ifCond .ne 15, 3) := by decide +kernel
theorem dL_law_293 : decode cL_law 293 = .ok (.aload_n 3, 1) := by decide +kernel
theorem dL_law_294 : decode cL_law 294 = .ok (.iconst 0, 1) := by decide +kernel
theorem dL_law_295 : decode cL_law 295 = .ok (.laload, 1) := by decide +kernel
theorem dL_law_296 : decode cL_law 296 = .ok (.iload 7, 2) := by decide +kernel
theorem dL_law_298 : decode cL_law 298 = .ok (.i2l, 1) := by decide +kernel
theorem dL_law_299 : decode cL_law 299 = .ok (.lcmp, 1) := by decide +kernel
theorem dL_law_300 : decode cL_law 300 = .ok (.ifCond .eq 5, 3) := by decide +kernel
theorem dL_law_303 : decode cL_law 303 = .ok (.iconst 0, 1) := by decide +kernel
theorem dL_law_304 : decode cL_law 304 = .ok (.ireturn, 1) := by decide +kernel
theorem dL_law_305 : decode cL_law 305 = .ok (.goto 1630, 3) := by decide +kernel
theorem dL_law_308 : decode cL_law 308 = .ok (.aload_n 1, 1) := by decide +kernel
theorem dL_law_309 : decode cL_law 309 = .ok (.aload_n 0, 1) := by decide +kernel
theorem dL_law_310 : decode cL_law 310 = .ok (.iload 5, 2) := by decide +kernel
theorem dL_law_312 : decode cL_law 312 = .ok (.iconst 1, 1) := by decide +kernel
theorem dL_law_313 : decode cL_law 313 = .ok (.iadd, 1) := by decide +kernel
theorem dL_law_314 : decode cL_law 314 = .ok (.iaload, 1) := by decide +kernel
theorem dL_law_315 : decode cL_law 315 = .ok (.aload_n 3, 1) := by decide +kernel
theorem dL_law_316 : decode cL_law 316 = .ok (.invokestatic 117, 3) := by decide +kernel
theorem dL_law_319 : decode cL_law 319 = .ok (.istore 6, 2) := by decide +kernel
theorem dL_law_321 : decode cL_law 321 = .ok (.aload_n 2, 1) := by decide +kernel
theorem dL_law_322 : decode cL_law 322 = .ok (.aload_n 0, 1) := by decide +kernel
theorem dL_law_323 : decode cL_law 323 = .ok (.iload 5, 2) := by decide +kernel
theorem dL_law_325 : decode cL_law 325 = .ok (.iconst 1, 1) := by decide +kernel
theorem dL_law_326 : decode cL_law 326 = .ok (.iadd, 1) := by decide +kernel
theorem dL_law_327 : decode cL_law 327 = .ok (.iaload, 1) := by decide +kernel
theorem dL_law_328 : decode cL_law 328 = .ok (.invokevirtual 120, 3) := by decide +kernel
theorem dL_law_331 : decode cL_law 331 = .ok (.istore 7, 2) := by decide +kernel
theorem dL_law_333 : decode cL_law 333 = .ok (.aload_n 2, 1) := by decide +kernel
theorem dL_law_334 : decode cL_law 334 = .ok (.invokevirtual 114, 3) := by decide +kernel
theorem dL_law_337 : decode cL_law 337 = .ok (.iload 6, 2) := by decide +kernel
theorem dL_law_339 : decode cL_law 339 = .ok (.if_icmp .eq 5, 3) := by decide +kernel
theorem dL_law_342 : decode cL_law 342 = .ok (.iconst 0, 1) := by decide +kernel
theorem dL_law_343 : decode cL_law 343 = .ok (.ireturn, 1) := by decide +kernel
theorem dL_law_344 : decode cL_law 344 = .ok (.iload 6, 2) := by decide +kernel
theorem dL_law_346 : decode cL_law 346 = .ok (.ifCond .ne 15, 3) := by decide +kernel
theorem dL_law_349 : decode cL_law 349 = .ok (.aload_n 3, 1) := by decide +kernel
theorem dL_law_350 : decode cL_law 350 = .ok (.iconst 0, 1) := by decide +kernel
theorem dL_law_351 : decode cL_law 351 = .ok (.laload, 1) := by decide +kernel
theorem dL_law_352 : decode cL_law 352 = .ok (.iload 7, 2) := by decide +kernel
theorem dL_law_354 : decode cL_law 354 = .ok (.i2l, 1) := by decide +kernel
theorem dL_law_355 : decode cL_law 355 = .ok (.lcmp, 1) := by decide +kernel
theorem dL_law_356 : decode cL_law 356 = .ok (.ifCond .eq 5, 3) := by decide +kernel
theorem dL_law_359 : decode cL_law 359 = .ok (.iconst 0, 1) := by decide +kernel
theorem dL_law_360 : decode cL_law 360 = .ok (.ireturn, 1) := by decide +kernel
theorem dL_law_361 : decode cL_law 361 = .ok (.goto 1574, 3) := by decide +kernel
theorem dL_law_364 : decode cL_law 364 = .ok (.aload_n 1, 1) := by decide +kernel
theorem dL_law_365 : decode cL_law 365 = .ok (.aload_n 0, 1) := by decide +kernel
theorem dL_law_366 : decode cL_law 366 = .ok (.iload 5, 2) := by decide +kernel
theorem dL_law_368 : decode cL_law 368 = .ok (.iconst 1, 1) := by decide +kernel
theorem dL_law_369 : decode cL_law 369 = .ok (.iadd, 1) := by decide +kernel
theorem dL_law_370 : decode cL_law 370 = .ok (.iaload, 1) := by decide +kernel
theorem dL_law_371 : decode cL_law 371 = .ok (.aload_n 0, 1) := by decide +kernel
theorem dL_law_372 : decode cL_law 372 = .ok (.iload 5, 2) := by decide +kernel
theorem dL_law_374 : decode cL_law 374 = .ok (.iconst 2, 1) := by decide +kernel
theorem dL_law_375 : decode cL_law 375 = .ok (.iadd, 1) := by decide +kernel
theorem dL_law_376 : decode cL_law 376 = .ok (.iaload, 1) := by decide +kernel
theorem dL_law_377 : decode cL_law 377 = .ok (.aload_n 0, 1) := by decide +kernel
theorem dL_law_378 : decode cL_law 378 = .ok (.iload 5, 2) := by decide +kernel
theorem dL_law_380 : decode cL_law 380 = .ok (.iconst 3, 1) := by decide +kernel
theorem dL_law_381 : decode cL_law 381 = .ok (.iadd, 1) := by decide +kernel
theorem dL_law_382 : decode cL_law 382 = .ok (.iaload, 1) := by decide +kernel
theorem dL_law_383 : decode cL_law 383 = .ok (.aload_n 3, 1) := by decide +kernel
theorem dL_law_384 : decode cL_law 384 = .ok (.invokestatic 121, 3) := by decide +kernel
theorem dL_law_387 : decode cL_law 387 = .ok (.istore 6, 2) := by decide +kernel
theorem dL_law_389 : decode cL_law 389 = .ok (.aload_n 2, 1) := by decide +kernel
theorem dL_law_390 : decode cL_law 390 = .ok (.aload_n 0, 1) := by decide +kernel
theorem dL_law_391 : decode cL_law 391 = .ok (.iload 5, 2) := by decide +kernel
theorem dL_law_393 : decode cL_law 393 = .ok (.iconst 1, 1) := by decide +kernel
theorem dL_law_394 : decode cL_law 394 = .ok (.iadd, 1) := by decide +kernel
theorem dL_law_395 : decode cL_law 395 = .ok (.iaload, 1) := by decide +kernel
theorem dL_law_396 : decode cL_law 396 = .ok (.aload_n 0, 1) := by decide +kernel
theorem dL_law_397 : decode cL_law 397 = .ok (.iload 5, 2) := by decide +kernel
theorem dL_law_399 : decode cL_law 399 = .ok (.iconst 2, 1) := by decide +kernel
theorem dL_law_400 : decode cL_law 400 = .ok (.iadd, 1) := by decide +kernel
theorem dL_law_401 : decode cL_law 401 = .ok (.iaload, 1) := by decide +kernel
theorem dL_law_402 : decode cL_law 402 = .ok (.aload_n 0, 1) := by decide +kernel
theorem dL_law_403 : decode cL_law 403 = .ok (.iload 5, 2) := by decide +kernel
theorem dL_law_405 : decode cL_law 405 = .ok (.iconst 3, 1) := by decide +kernel
theorem dL_law_406 : decode cL_law 406 = .ok (.iadd, 1) := by decide +kernel
theorem dL_law_407 : decode cL_law 407 = .ok (.iaload, 1) := by decide +kernel
theorem dL_law_408 : decode cL_law 408 = .ok (.invokevirtual 124, 3) := by decide +kernel
theorem dL_law_411 : decode cL_law 411 = .ok (.istore 7, 2) := by decide +kernel
theorem dL_law_413 : decode cL_law 413 = .ok (.aload_n 2, 1) := by decide +kernel
theorem dL_law_414 : decode cL_law 414 = .ok (.invokevirtual 114, 3) := by decide +kernel
theorem dL_law_417 : decode cL_law 417 = .ok (.iload 6, 2) := by decide +kernel
theorem dL_law_419 : decode cL_law 419 = .ok (.if_icmp .eq 5, 3) := by decide +kernel
theorem dL_law_422 : decode cL_law 422 = .ok (.iconst 0, 1) := by decide +kernel
theorem dL_law_423 : decode cL_law 423 = .ok (.ireturn, 1) := by decide +kernel
theorem dL_law_424 : decode cL_law 424 = .ok (.iload 6, 2) := by decide +kernel
theorem dL_law_426 : decode cL_law 426 = .ok (.ifCond .ne 15, 3) := by decide +kernel
theorem dL_law_429 : decode cL_law 429 = .ok (.aload_n 3, 1) := by decide +kernel
theorem dL_law_430 : decode cL_law 430 = .ok (.iconst 0, 1) := by decide +kernel
theorem dL_law_431 : decode cL_law 431 = .ok (.laload, 1) := by decide +kernel
theorem dL_law_432 : decode cL_law 432 = .ok (.iload 7, 2) := by decide +kernel
theorem dL_law_434 : decode cL_law 434 = .ok (.i2l, 1) := by decide +kernel
theorem dL_law_435 : decode cL_law 435 = .ok (.lcmp, 1) := by decide +kernel
theorem dL_law_436 : decode cL_law 436 = .ok (.ifCond .eq 5, 3) := by decide +kernel
theorem dL_law_439 : decode cL_law 439 = .ok (.iconst 0, 1) := by decide +kernel
theorem dL_law_440 : decode cL_law 440 = .ok (.ireturn, 1) := by decide +kernel
theorem dL_law_441 : decode cL_law 441 = .ok (.goto 1494, 3) := by decide +kernel
theorem dL_law_444 : decode cL_law 444 = .ok (.aload_n 1, 1) := by decide +kernel
theorem dL_law_445 : decode cL_law 445 = .ok (.aload_n 0, 1) := by decide +kernel
theorem dL_law_446 : decode cL_law 446 = .ok (.iload 5, 2) := by decide +kernel
theorem dL_law_448 : decode cL_law 448 = .ok (.iconst 1, 1) := by decide +kernel
theorem dL_law_449 : decode cL_law 449 = .ok (.iadd, 1) := by decide +kernel
theorem dL_law_450 : decode cL_law 450 = .ok (.iaload, 1) := by decide +kernel
theorem dL_law_451 : decode cL_law 451 = .ok (.aload_n 0, 1) := by decide +kernel
theorem dL_law_452 : decode cL_law 452 = .ok (.iload 5, 2) := by decide +kernel
theorem dL_law_454 : decode cL_law 454 = .ok (.iconst 2, 1) := by decide +kernel
theorem dL_law_455 : decode cL_law 455 = .ok (.iadd, 1) := by decide +kernel
theorem dL_law_456 : decode cL_law 456 = .ok (.iaload, 1) := by decide +kernel
theorem dL_law_457 : decode cL_law 457 = .ok (.aload_n 0, 1) := by decide +kernel
theorem dL_law_458 : decode cL_law 458 = .ok (.iload 5, 2) := by decide +kernel
theorem dL_law_460 : decode cL_law 460 = .ok (.iconst 3, 1) := by decide +kernel
theorem dL_law_461 : decode cL_law 461 = .ok (.iadd, 1) := by decide +kernel
theorem dL_law_462 : decode cL_law 462 = .ok (.iaload, 1) := by decide +kernel
theorem dL_law_463 : decode cL_law 463 = .ok (.aload_n 3, 1) := by decide +kernel
theorem dL_law_464 : decode cL_law 464 = .ok (.invokestatic 125, 3) := by decide +kernel
theorem dL_law_467 : decode cL_law 467 = .ok (.istore 6, 2) := by decide +kernel
theorem dL_law_469 : decode cL_law 469 = .ok (.aload_n 2, 1) := by decide +kernel
theorem dL_law_470 : decode cL_law 470 = .ok (.aload_n 0, 1) := by decide +kernel
theorem dL_law_471 : decode cL_law 471 = .ok (.iload 5, 2) := by decide +kernel
theorem dL_law_473 : decode cL_law 473 = .ok (.iconst 1, 1) := by decide +kernel
theorem dL_law_474 : decode cL_law 474 = .ok (.iadd, 1) := by decide +kernel
theorem dL_law_475 : decode cL_law 475 = .ok (.iaload, 1) := by decide +kernel
theorem dL_law_476 : decode cL_law 476 = .ok (.aload_n 0, 1) := by decide +kernel
theorem dL_law_477 : decode cL_law 477 = .ok (.iload 5, 2) := by decide +kernel
theorem dL_law_479 : decode cL_law 479 = .ok (.iconst 2, 1) := by decide +kernel
theorem dL_law_480 : decode cL_law 480 = .ok (.iadd, 1) := by decide +kernel
theorem dL_law_481 : decode cL_law 481 = .ok (.iaload, 1) := by decide +kernel
theorem dL_law_482 : decode cL_law 482 = .ok (.aload_n 0, 1) := by decide +kernel
theorem dL_law_483 : decode cL_law 483 = .ok (.iload 5, 2) := by decide +kernel
theorem dL_law_485 : decode cL_law 485 = .ok (.iconst 3, 1) := by decide +kernel
theorem dL_law_486 : decode cL_law 486 = .ok (.iadd, 1) := by decide +kernel
theorem dL_law_487 : decode cL_law 487 = .ok (.iaload, 1) := by decide +kernel
theorem dL_law_488 : decode cL_law 488 = .ok (.invokevirtual 127, 3) := by decide +kernel
theorem dL_law_491 : decode cL_law 491 = .ok (.istore 7, 2) := by decide +kernel
theorem dL_law_493 : decode cL_law 493 = .ok (.aload_n 2, 1) := by decide +kernel
theorem dL_law_494 : decode cL_law 494 = .ok (.invokevirtual 114, 3) := by decide +kernel
theorem dL_law_497 : decode cL_law 497 = .ok (.iload 6, 2) := by decide +kernel
theorem dL_law_499 : decode cL_law 499 = .ok (.if_icmp .eq 5, 3) := by decide +kernel
theorem dL_law_502 : decode cL_law 502 = .ok (.iconst 0, 1) := by decide +kernel
theorem dL_law_503 : decode cL_law 503 = .ok (.ireturn, 1) := by decide +kernel
theorem dL_law_504 : decode cL_law 504 = .ok (.iload 6, 2) := by decide +kernel
theorem dL_law_506 : decode cL_law 506 = .ok (.ifCond .ne 15, 3) := by decide +kernel
theorem dL_law_509 : decode cL_law 509 = .ok (.aload_n 3, 1) := by decide +kernel
theorem dL_law_510 : decode cL_law 510 = .ok (.iconst 0, 1) := by decide +kernel
theorem dL_law_511 : decode cL_law 511 = .ok (.laload, 1) := by decide +kernel
theorem dL_law_512 : decode cL_law 512 = .ok (.iload 7, 2) := by decide +kernel
theorem dL_law_514 : decode cL_law 514 = .ok (.i2l, 1) := by decide +kernel
theorem dL_law_515 : decode cL_law 515 = .ok (.lcmp, 1) := by decide +kernel
theorem dL_law_516 : decode cL_law 516 = .ok (.ifCond .eq 5, 3) := by decide +kernel
theorem dL_law_519 : decode cL_law 519 = .ok (.iconst 0, 1) := by decide +kernel
theorem dL_law_520 : decode cL_law 520 = .ok (.ireturn, 1) := by decide +kernel
theorem dL_law_521 : decode cL_law 521 = .ok (.goto 1414, 3) := by decide +kernel
theorem dL_law_524 : decode cL_law 524 = .ok (.aload_n 1, 1) := by decide +kernel
theorem dL_law_525 : decode cL_law 525 = .ok (.aload_n 0, 1) := by decide +kernel
theorem dL_law_526 : decode cL_law 526 = .ok (.iload 5, 2) := by decide +kernel
theorem dL_law_528 : decode cL_law 528 = .ok (.iconst 1, 1) := by decide +kernel
theorem dL_law_529 : decode cL_law 529 = .ok (.iadd, 1) := by decide +kernel
theorem dL_law_530 : decode cL_law 530 = .ok (.iaload, 1) := by decide +kernel
theorem dL_law_531 : decode cL_law 531 = .ok (.aload_n 0, 1) := by decide +kernel
theorem dL_law_532 : decode cL_law 532 = .ok (.iload 5, 2) := by decide +kernel
theorem dL_law_534 : decode cL_law 534 = .ok (.iconst 2, 1) := by decide +kernel
theorem dL_law_535 : decode cL_law 535 = .ok (.iadd, 1) := by decide +kernel
theorem dL_law_536 : decode cL_law 536 = .ok (.iaload, 1) := by decide +kernel
theorem dL_law_537 : decode cL_law 537 = .ok (.aload_n 3, 1) := by decide +kernel
theorem dL_law_538 : decode cL_law 538 = .ok (.invokestatic 128, 3) := by decide +kernel
theorem dL_law_541 : decode cL_law 541 = .ok (.istore 6, 2) := by decide +kernel
theorem dL_law_543 : decode cL_law 543 = .ok (.aload_n 2, 1) := by decide +kernel
theorem dL_law_544 : decode cL_law 544 = .ok (.aload_n 0, 1) := by decide +kernel
theorem dL_law_545 : decode cL_law 545 = .ok (.iload 5, 2) := by decide +kernel
theorem dL_law_547 : decode cL_law 547 = .ok (.iconst 1, 1) := by decide +kernel
theorem dL_law_548 : decode cL_law 548 = .ok (.iadd, 1) := by decide +kernel
theorem dL_law_549 : decode cL_law 549 = .ok (.iaload, 1) := by decide +kernel
theorem dL_law_550 : decode cL_law 550 = .ok (.aload_n 0, 1) := by decide +kernel
theorem dL_law_551 : decode cL_law 551 = .ok (.iload 5, 2) := by decide +kernel
theorem dL_law_553 : decode cL_law 553 = .ok (.iconst 2, 1) := by decide +kernel
theorem dL_law_554 : decode cL_law 554 = .ok (.iadd, 1) := by decide +kernel
theorem dL_law_555 : decode cL_law 555 = .ok (.iaload, 1) := by decide +kernel
theorem dL_law_556 : decode cL_law 556 = .ok (.invokevirtual 131, 3) := by decide +kernel
theorem dL_law_559 : decode cL_law 559 = .ok (.istore 7, 2) := by decide +kernel
theorem dL_law_561 : decode cL_law 561 = .ok (.aload_n 2, 1) := by decide +kernel
theorem dL_law_562 : decode cL_law 562 = .ok (.invokevirtual 114, 3) := by decide +kernel
theorem dL_law_565 : decode cL_law 565 = .ok (.iload 6, 2) := by decide +kernel
theorem dL_law_567 : decode cL_law 567 = .ok (.if_icmp .eq 5, 3) := by decide +kernel
theorem dL_law_570 : decode cL_law 570 = .ok (.iconst 0, 1) := by decide +kernel
theorem dL_law_571 : decode cL_law 571 = .ok (.ireturn, 1) := by decide +kernel
theorem dL_law_572 : decode cL_law 572 = .ok (.iload 6, 2) := by decide +kernel
theorem dL_law_574 : decode cL_law 574 = .ok (.ifCond .ne 15, 3) := by decide +kernel
theorem dL_law_577 : decode cL_law 577 = .ok (.aload_n 3, 1) := by decide +kernel
theorem dL_law_578 : decode cL_law 578 = .ok (.iconst 0, 1) := by decide +kernel
theorem dL_law_579 : decode cL_law 579 = .ok (.laload, 1) := by decide +kernel
theorem dL_law_580 : decode cL_law 580 = .ok (.iload 7, 2) := by decide +kernel
theorem dL_law_582 : decode cL_law 582 = .ok (.i2l, 1) := by decide +kernel
theorem dL_law_583 : decode cL_law 583 = .ok (.lcmp, 1) := by decide +kernel
theorem dL_law_584 : decode cL_law 584 = .ok (.ifCond .eq 5, 3) := by decide +kernel
theorem dL_law_587 : decode cL_law 587 = .ok (.iconst 0, 1) := by decide +kernel
theorem dL_law_588 : decode cL_law 588 = .ok (.ireturn, 1) := by decide +kernel
theorem dL_law_589 : decode cL_law 589 = .ok (.goto 1346, 3) := by decide +kernel
theorem dL_law_592 : decode cL_law 592 = .ok (.aload_n 1, 1) := by decide +kernel
theorem dL_law_593 : decode cL_law 593 = .ok (.invokevirtual 132, 3) := by decide +kernel
theorem dL_law_596 : decode cL_law 596 = .ok (.aload_n 2, 1) := by decide +kernel
theorem dL_law_597 : decode cL_law 597 = .ok (.invokevirtual 135, 3) := by decide +kernel
theorem dL_law_600 : decode cL_law 600 = .ok (.if_icmp .eq 1335, 3) := by decide +kernel
theorem dL_law_603 : decode cL_law 603 = .ok (.iconst 0, 1) := by decide +kernel
theorem dL_law_604 : decode cL_law 604 = .ok (.ireturn, 1) := by decide +kernel
theorem dL_law_605 : decode cL_law 605 = .ok (.aload_n 1, 1) := by decide +kernel
theorem dL_law_606 : decode cL_law 606 = .ok (.aload_n 0, 1) := by decide +kernel
theorem dL_law_607 : decode cL_law 607 = .ok (.iload 5, 2) := by decide +kernel
theorem dL_law_609 : decode cL_law 609 = .ok (.iconst 1, 1) := by decide +kernel
theorem dL_law_610 : decode cL_law 610 = .ok (.iadd, 1) := by decide +kernel
theorem dL_law_611 : decode cL_law 611 = .ok (.iaload, 1) := by decide +kernel
theorem dL_law_612 : decode cL_law 612 = .ok (.invokevirtual 136, 3) := by decide +kernel
theorem dL_law_615 : decode cL_law 615 = .ok (.aload_n 2, 1) := by decide +kernel
theorem dL_law_616 : decode cL_law 616 = .ok (.aload_n 0, 1) := by decide +kernel
theorem dL_law_617 : decode cL_law 617 = .ok (.iload 5, 2) := by decide +kernel
theorem dL_law_619 : decode cL_law 619 = .ok (.iconst 1, 1) := by decide +kernel
theorem dL_law_620 : decode cL_law 620 = .ok (.iadd, 1) := by decide +kernel
theorem dL_law_621 : decode cL_law 621 = .ok (.iaload, 1) := by decide +kernel
theorem dL_law_622 : decode cL_law 622 = .ok (.invokevirtual 140, 3) := by decide +kernel
theorem dL_law_625 : decode cL_law 625 = .ok (.if_icmp .eq 1310, 3) := by decide +kernel
theorem dL_law_628 : decode cL_law 628 = .ok (.iconst 0, 1) := by decide +kernel
theorem dL_law_629 : decode cL_law 629 = .ok (.ireturn, 1) := by decide +kernel
theorem dL_law_630 : decode cL_law 630 = .ok (.aload_n 1, 1) := by decide +kernel
theorem dL_law_631 : decode cL_law 631 = .ok (.aload_n 0, 1) := by decide +kernel
theorem dL_law_632 : decode cL_law 632 = .ok (.iload 5, 2) := by decide +kernel
theorem dL_law_634 : decode cL_law 634 = .ok (.iconst 1, 1) := by decide +kernel
theorem dL_law_635 : decode cL_law 635 = .ok (.iadd, 1) := by decide +kernel
theorem dL_law_636 : decode cL_law 636 = .ok (.iaload, 1) := by decide +kernel
theorem dL_law_637 : decode cL_law 637 = .ok (.aload_n 0, 1) := by decide +kernel
theorem dL_law_638 : decode cL_law 638 = .ok (.iload 5, 2) := by decide +kernel
theorem dL_law_640 : decode cL_law 640 = .ok (.iconst 2, 1) := by decide +kernel
theorem dL_law_641 : decode cL_law 641 = .ok (.iadd, 1) := by decide +kernel
theorem dL_law_642 : decode cL_law 642 = .ok (.iaload, 1) := by decide +kernel
theorem dL_law_643 : decode cL_law 643 = .ok (.aload_n 0, 1) := by decide +kernel
theorem dL_law_644 : decode cL_law 644 = .ok (.iload 5, 2) := by decide +kernel
theorem dL_law_646 : decode cL_law 646 = .ok (.iconst 3, 1) := by decide +kernel
theorem dL_law_647 : decode cL_law 647 = .ok (.iadd, 1) := by decide +kernel
theorem dL_law_648 : decode cL_law 648 = .ok (.iaload, 1) := by decide +kernel
theorem dL_law_649 : decode cL_law 649 = .ok (.aload_n 0, 1) := by decide +kernel
theorem dL_law_650 : decode cL_law 650 = .ok (.iload 5, 2) := by decide +kernel
theorem dL_law_652 : decode cL_law 652 = .ok (.iconst 4, 1) := by decide +kernel
theorem dL_law_653 : decode cL_law 653 = .ok (.iadd, 1) := by decide +kernel
theorem dL_law_654 : decode cL_law 654 = .ok (.iaload, 1) := by decide +kernel
theorem dL_law_655 : decode cL_law 655 = .ok (.i2c, 1) := by decide +kernel
theorem dL_law_656 : decode cL_law 656 = .ok (.aload_n 0, 1) := by decide +kernel
theorem dL_law_657 : decode cL_law 657 = .ok (.iload 5, 2) := by decide +kernel
theorem dL_law_659 : decode cL_law 659 = .ok (.iconst 5, 1) := by decide +kernel
theorem dL_law_660 : decode cL_law 660 = .ok (.iadd, 1) := by decide +kernel
theorem dL_law_661 : decode cL_law 661 = .ok (.iaload, 1) := by decide +kernel
theorem dL_law_662 : decode cL_law 662 = .ok (.aload_n 0, 1) := by decide +kernel
theorem dL_law_663 : decode cL_law 663 = .ok (.iload 5, 2) := by decide +kernel
theorem dL_law_665 : decode cL_law 665 = .ok (.bipush 6, 2) := by decide +kernel
theorem dL_law_667 : decode cL_law 667 = .ok (.iadd, 1) := by decide +kernel
theorem dL_law_668 : decode cL_law 668 = .ok (.iaload, 1) := by decide +kernel
theorem dL_law_669 : decode cL_law 669 = .ok (.aload_n 3, 1) := by decide +kernel
theorem dL_law_670 : decode cL_law 670 = .ok (.invokestatic 141, 3) := by decide +kernel
theorem dL_law_673 : decode cL_law 673 = .ok (.istore 6, 2) := by decide +kernel
theorem dL_law_675 : decode cL_law 675 = .ok (.aload_n 2, 1) := by decide +kernel
theorem dL_law_676 : decode cL_law 676 = .ok (.aload_n 0, 1) := by decide +kernel
theorem dL_law_677 : decode cL_law 677 = .ok (.iload 5, 2) := by decide +kernel
theorem dL_law_679 : decode cL_law 679 = .ok (.iconst 1, 1) := by decide +kernel
theorem dL_law_680 : decode cL_law 680 = .ok (.iadd, 1) := by decide +kernel
theorem dL_law_681 : decode cL_law 681 = .ok (.iaload, 1) := by decide +kernel
theorem dL_law_682 : decode cL_law 682 = .ok (.aload_n 0, 1) := by decide +kernel
theorem dL_law_683 : decode cL_law 683 = .ok (.iload 5, 2) := by decide +kernel
theorem dL_law_685 : decode cL_law 685 = .ok (.iconst 2, 1) := by decide +kernel
theorem dL_law_686 : decode cL_law 686 = .ok (.iadd, 1) := by decide +kernel
theorem dL_law_687 : decode cL_law 687 = .ok (.iaload, 1) := by decide +kernel
theorem dL_law_688 : decode cL_law 688 = .ok (.aload_n 0, 1) := by decide +kernel
theorem dL_law_689 : decode cL_law 689 = .ok (.iload 5, 2) := by decide +kernel
theorem dL_law_691 : decode cL_law 691 = .ok (.iconst 3, 1) := by decide +kernel
theorem dL_law_692 : decode cL_law 692 = .ok (.iadd, 1) := by decide +kernel
theorem dL_law_693 : decode cL_law 693 = .ok (.iaload, 1) := by decide +kernel
theorem dL_law_694 : decode cL_law 694 = .ok (.aload_n 0, 1) := by decide +kernel
theorem dL_law_695 : decode cL_law 695 = .ok (.iload 5, 2) := by decide +kernel
theorem dL_law_697 : decode cL_law 697 = .ok (.iconst 4, 1) := by decide +kernel
theorem dL_law_698 : decode cL_law 698 = .ok (.iadd, 1) := by decide +kernel
theorem dL_law_699 : decode cL_law 699 = .ok (.iaload, 1) := by decide +kernel
theorem dL_law_700 : decode cL_law 700 = .ok (.i2c, 1) := by decide +kernel
theorem dL_law_701 : decode cL_law 701 = .ok (.aload_n 0, 1) := by decide +kernel
theorem dL_law_702 : decode cL_law 702 = .ok (.iload 5, 2) := by decide +kernel
theorem dL_law_704 : decode cL_law 704 = .ok (.iconst 5, 1) := by decide +kernel
theorem dL_law_705 : decode cL_law 705 = .ok (.iadd, 1) := by decide +kernel
theorem dL_law_706 : decode cL_law 706 = .ok (.iaload, 1) := by decide +kernel
theorem dL_law_707 : decode cL_law 707 = .ok (.aload_n 0, 1) := by decide +kernel
theorem dL_law_708 : decode cL_law 708 = .ok (.iload 5, 2) := by decide +kernel
theorem dL_law_710 : decode cL_law 710 = .ok (.bipush 6, 2) := by decide +kernel
theorem dL_law_712 : decode cL_law 712 = .ok (.iadd, 1) := by decide +kernel
theorem dL_law_713 : decode cL_law 713 = .ok (.iaload, 1) := by decide +kernel
theorem dL_law_714 : decode cL_law 714 = .ok (.invokevirtual 144, 3) := by decide +kernel
theorem dL_law_717 : decode cL_law 717 = .ok (.istore 7, 2) := by decide +kernel
theorem dL_law_719 : decode cL_law 719 = .ok (.aload_n 2, 1) := by decide +kernel
theorem dL_law_720 : decode cL_law 720 = .ok (.invokevirtual 114, 3) := by decide +kernel
theorem dL_law_723 : decode cL_law 723 = .ok (.iload 6, 2) := by decide +kernel
theorem dL_law_725 : decode cL_law 725 = .ok (.if_icmp .eq 5, 3) := by decide +kernel
theorem dL_law_728 : decode cL_law 728 = .ok (.iconst 0, 1) := by decide +kernel
theorem dL_law_729 : decode cL_law 729 = .ok (.ireturn, 1) := by decide +kernel
theorem dL_law_730 : decode cL_law 730 = .ok (.iload 6, 2) := by decide +kernel
theorem dL_law_732 : decode cL_law 732 = .ok (.ifCond .ne 15, 3) := by decide +kernel
theorem dL_law_735 : decode cL_law 735 = .ok (.aload_n 3, 1) := by decide +kernel
theorem dL_law_736 : decode cL_law 736 = .ok (.iconst 0, 1) := by decide +kernel
theorem dL_law_737 : decode cL_law 737 = .ok (.laload, 1) := by decide +kernel
theorem dL_law_738 : decode cL_law 738 = .ok (.iload 7, 2) := by decide +kernel
theorem dL_law_740 : decode cL_law 740 = .ok (.i2l, 1) := by decide +kernel
theorem dL_law_741 : decode cL_law 741 = .ok (.lcmp, 1) := by decide +kernel
theorem dL_law_742 : decode cL_law 742 = .ok (.ifCond .eq 5, 3) := by decide +kernel
theorem dL_law_745 : decode cL_law 745 = .ok (.iconst 0, 1) := by decide +kernel
theorem dL_law_746 : decode cL_law 746 = .ok (.ireturn, 1) := by decide +kernel
theorem dL_law_747 : decode cL_law 747 = .ok (.goto 1188, 3) := by decide +kernel
theorem dL_law_750 : decode cL_law 750 = .ok (.aload_n 1, 1) := by decide +kernel
theorem dL_law_751 : decode cL_law 751 = .ok (.aload_n 0, 1) := by decide +kernel
theorem dL_law_752 : decode cL_law 752 = .ok (.iload 5, 2) := by decide +kernel
theorem dL_law_754 : decode cL_law 754 = .ok (.iconst 1, 1) := by decide +kernel
theorem dL_law_755 : decode cL_law 755 = .ok (.iadd, 1) := by decide +kernel
theorem dL_law_756 : decode cL_law 756 = .ok (.iaload, 1) := by decide +kernel
theorem dL_law_757 : decode cL_law 757 = .ok (.aload_n 0, 1) := by decide +kernel
theorem dL_law_758 : decode cL_law 758 = .ok (.iload 5, 2) := by decide +kernel
theorem dL_law_760 : decode cL_law 760 = .ok (.iconst 2, 1) := by decide +kernel
theorem dL_law_761 : decode cL_law 761 = .ok (.iadd, 1) := by decide +kernel
theorem dL_law_762 : decode cL_law 762 = .ok (.iaload, 1) := by decide +kernel
theorem dL_law_763 : decode cL_law 763 = .ok (.ifCond .eq 7, 3) := by decide +kernel
theorem dL_law_766 : decode cL_law 766 = .ok (.iconst 1, 1) := by decide +kernel
theorem dL_law_767 : decode cL_law 767 = .ok (.goto 4, 3) := by decide +kernel
theorem dL_law_770 : decode cL_law 770 = .ok (.iconst 0, 1) := by decide +kernel
theorem dL_law_771 : decode cL_law 771 = .ok (.aload_n 0, 1) := by decide +kernel
theorem dL_law_772 : decode cL_law 772 = .ok (.iload 5, 2) := by decide +kernel
theorem dL_law_774 : decode cL_law 774 = .ok (.iconst 3, 1) := by decide +kernel
theorem dL_law_775 : decode cL_law 775 = .ok (.iadd, 1) := by decide +kernel
theorem dL_law_776 : decode cL_law 776 = .ok (.iaload, 1) := by decide +kernel
theorem dL_law_777 : decode cL_law 777 = .ok (.ifCond .eq 7, 3) := by decide +kernel
theorem dL_law_780 : decode cL_law 780 = .ok (.iconst 1, 1) := by decide +kernel
theorem dL_law_781 : decode cL_law 781 = .ok (.goto 4, 3) := by decide +kernel
theorem dL_law_784 : decode cL_law 784 = .ok (.iconst 0, 1) := by decide +kernel
theorem dL_law_785 : decode cL_law 785 = .ok (.aload_n 0, 1) := by decide +kernel
theorem dL_law_786 : decode cL_law 786 = .ok (.iload 5, 2) := by decide +kernel
theorem dL_law_788 : decode cL_law 788 = .ok (.iconst 4, 1) := by decide +kernel
theorem dL_law_789 : decode cL_law 789 = .ok (.iadd, 1) := by decide +kernel
theorem dL_law_790 : decode cL_law 790 = .ok (.iaload, 1) := by decide +kernel
theorem dL_law_791 : decode cL_law 791 = .ok (.ifCond .eq 7, 3) := by decide +kernel
theorem dL_law_794 : decode cL_law 794 = .ok (.iconst 1, 1) := by decide +kernel
theorem dL_law_795 : decode cL_law 795 = .ok (.goto 4, 3) := by decide +kernel
theorem dL_law_798 : decode cL_law 798 = .ok (.iconst 0, 1) := by decide +kernel
theorem dL_law_799 : decode cL_law 799 = .ok (.aload_n 3, 1) := by decide +kernel
theorem dL_law_800 : decode cL_law 800 = .ok (.invokestatic 145, 3) := by decide +kernel
theorem dL_law_803 : decode cL_law 803 = .ok (.istore 6, 2) := by decide +kernel
theorem dL_law_805 : decode cL_law 805 = .ok (.aload_n 2, 1) := by decide +kernel
theorem dL_law_806 : decode cL_law 806 = .ok (.aload_n 0, 1) := by decide +kernel
theorem dL_law_807 : decode cL_law 807 = .ok (.iload 5, 2) := by decide +kernel
theorem dL_law_809 : decode cL_law 809 = .ok (.iconst 1, 1) := by decide +kernel
theorem dL_law_810 : decode cL_law 810 = .ok (.iadd, 1) := by decide +kernel
theorem dL_law_811 : decode cL_law 811 = .ok (.iaload, 1) := by decide +kernel
theorem dL_law_812 : decode cL_law 812 = .ok (.aload_n 0, 1) := by decide +kernel
theorem dL_law_813 : decode cL_law 813 = .ok (.iload 5, 2) := by decide +kernel
theorem dL_law_815 : decode cL_law 815 = .ok (.iconst 2, 1) := by decide +kernel
theorem dL_law_816 : decode cL_law 816 = .ok (.iadd, 1) := by decide +kernel
theorem dL_law_817 : decode cL_law 817 = .ok (.iaload, 1) := by decide +kernel
theorem dL_law_818 : decode cL_law 818 = .ok (.ifCond .eq 7, 3) := by decide +kernel
theorem dL_law_821 : decode cL_law 821 = .ok (.iconst 1, 1) := by decide +kernel
theorem dL_law_822 : decode cL_law 822 = .ok (.goto 4, 3) := by decide +kernel
theorem dL_law_825 : decode cL_law 825 = .ok (.iconst 0, 1) := by decide +kernel
theorem dL_law_826 : decode cL_law 826 = .ok (.aload_n 0, 1) := by decide +kernel
theorem dL_law_827 : decode cL_law 827 = .ok (.iload 5, 2) := by decide +kernel
theorem dL_law_829 : decode cL_law 829 = .ok (.iconst 3, 1) := by decide +kernel
theorem dL_law_830 : decode cL_law 830 = .ok (.iadd, 1) := by decide +kernel
theorem dL_law_831 : decode cL_law 831 = .ok (.iaload, 1) := by decide +kernel
theorem dL_law_832 : decode cL_law 832 = .ok (.ifCond .eq 7, 3) := by decide +kernel
theorem dL_law_835 : decode cL_law 835 = .ok (.iconst 1, 1) := by decide +kernel
theorem dL_law_836 : decode cL_law 836 = .ok (.goto 4, 3) := by decide +kernel
theorem dL_law_839 : decode cL_law 839 = .ok (.iconst 0, 1) := by decide +kernel
theorem dL_law_840 : decode cL_law 840 = .ok (.aload_n 0, 1) := by decide +kernel
theorem dL_law_841 : decode cL_law 841 = .ok (.iload 5, 2) := by decide +kernel
theorem dL_law_843 : decode cL_law 843 = .ok (.iconst 4, 1) := by decide +kernel
theorem dL_law_844 : decode cL_law 844 = .ok (.iadd, 1) := by decide +kernel
theorem dL_law_845 : decode cL_law 845 = .ok (.iaload, 1) := by decide +kernel
theorem dL_law_846 : decode cL_law 846 = .ok (.ifCond .eq 7, 3) := by decide +kernel
theorem dL_law_849 : decode cL_law 849 = .ok (.iconst 1, 1) := by decide +kernel
theorem dL_law_850 : decode cL_law 850 = .ok (.goto 4, 3) := by decide +kernel
theorem dL_law_853 : decode cL_law 853 = .ok (.iconst 0, 1) := by decide +kernel
theorem dL_law_854 : decode cL_law 854 = .ok (.invokevirtual 148, 3) := by decide +kernel
theorem dL_law_857 : decode cL_law 857 = .ok (.istore 7, 2) := by decide +kernel
theorem dL_law_859 : decode cL_law 859 = .ok (.aload_n 2, 1) := by decide +kernel
theorem dL_law_860 : decode cL_law 860 = .ok (.invokevirtual 114, 3) := by decide +kernel
theorem dL_law_863 : decode cL_law 863 = .ok (.iload 6, 2) := by decide +kernel
theorem dL_law_865 : decode cL_law 865 = .ok (.if_icmp .eq 5, 3) := by decide +kernel
theorem dL_law_868 : decode cL_law 868 = .ok (.iconst 0, 1) := by decide +kernel
theorem dL_law_869 : decode cL_law 869 = .ok (.ireturn, 1) := by decide +kernel
theorem dL_law_870 : decode cL_law 870 = .ok (.iload 6, 2) := by decide +kernel
theorem dL_law_872 : decode cL_law 872 = .ok (.ifCond .ne 15, 3) := by decide +kernel
theorem dL_law_875 : decode cL_law 875 = .ok (.aload_n 3, 1) := by decide +kernel
theorem dL_law_876 : decode cL_law 876 = .ok (.iconst 0, 1) := by decide +kernel
theorem dL_law_877 : decode cL_law 877 = .ok (.laload, 1) := by decide +kernel
theorem dL_law_878 : decode cL_law 878 = .ok (.iload 7, 2) := by decide +kernel
theorem dL_law_880 : decode cL_law 880 = .ok (.i2l, 1) := by decide +kernel
theorem dL_law_881 : decode cL_law 881 = .ok (.lcmp, 1) := by decide +kernel
theorem dL_law_882 : decode cL_law 882 = .ok (.ifCond .eq 5, 3) := by decide +kernel
theorem dL_law_885 : decode cL_law 885 = .ok (.iconst 0, 1) := by decide +kernel
theorem dL_law_886 : decode cL_law 886 = .ok (.ireturn, 1) := by decide +kernel
theorem dL_law_887 : decode cL_law 887 = .ok (.goto 1048, 3) := by decide +kernel
theorem dL_law_890 : decode cL_law 890 = .ok (.aload_n 1, 1) := by decide +kernel
theorem dL_law_891 : decode cL_law 891 = .ok (.aload_n 0, 1) := by decide +kernel
theorem dL_law_892 : decode cL_law 892 = .ok (.iload 5, 2) := by decide +kernel
theorem dL_law_894 : decode cL_law 894 = .ok (.iconst 1, 1) := by decide +kernel
theorem dL_law_895 : decode cL_law 895 = .ok (.iadd, 1) := by decide +kernel
theorem dL_law_896 : decode cL_law 896 = .ok (.iaload, 1) := by decide +kernel
theorem dL_law_897 : decode cL_law 897 = .ok (.aload_n 0, 1) := by decide +kernel
theorem dL_law_898 : decode cL_law 898 = .ok (.iload 5, 2) := by decide +kernel
theorem dL_law_900 : decode cL_law 900 = .ok (.iconst 2, 1) := by decide +kernel
theorem dL_law_901 : decode cL_law 901 = .ok (.iadd, 1) := by decide +kernel
theorem dL_law_902 : decode cL_law 902 = .ok (.iaload, 1) := by decide +kernel
theorem dL_law_903 : decode cL_law 903 = .ok (.aload_n 3, 1) := by decide +kernel
theorem dL_law_904 : decode cL_law 904 = .ok (.invokestatic 149, 3) := by decide +kernel
theorem dL_law_907 : decode cL_law 907 = .ok (.istore 6, 2) := by decide +kernel
theorem dL_law_909 : decode cL_law 909 = .ok (.aload_n 2, 1) := by decide +kernel
theorem dL_law_910 : decode cL_law 910 = .ok (.aload_n 0, 1) := by decide +kernel
theorem dL_law_911 : decode cL_law 911 = .ok (.iload 5, 2) := by decide +kernel
theorem dL_law_913 : decode cL_law 913 = .ok (.iconst 1, 1) := by decide +kernel
theorem dL_law_914 : decode cL_law 914 = .ok (.iadd, 1) := by decide +kernel
theorem dL_law_915 : decode cL_law 915 = .ok (.iaload, 1) := by decide +kernel
theorem dL_law_916 : decode cL_law 916 = .ok (.aload_n 0, 1) := by decide +kernel
theorem dL_law_917 : decode cL_law 917 = .ok (.iload 5, 2) := by decide +kernel
theorem dL_law_919 : decode cL_law 919 = .ok (.iconst 2, 1) := by decide +kernel
theorem dL_law_920 : decode cL_law 920 = .ok (.iadd, 1) := by decide +kernel
theorem dL_law_921 : decode cL_law 921 = .ok (.iaload, 1) := by decide +kernel
theorem dL_law_922 : decode cL_law 922 = .ok (.invokevirtual 151, 3) := by decide +kernel
theorem dL_law_925 : decode cL_law 925 = .ok (.istore 7, 2) := by decide +kernel
theorem dL_law_927 : decode cL_law 927 = .ok (.aload_n 2, 1) := by decide +kernel
theorem dL_law_928 : decode cL_law 928 = .ok (.invokevirtual 114, 3) := by decide +kernel
theorem dL_law_931 : decode cL_law 931 = .ok (.iload 6, 2) := by decide +kernel
theorem dL_law_933 : decode cL_law 933 = .ok (.if_icmp .eq 5, 3) := by decide +kernel
theorem dL_law_936 : decode cL_law 936 = .ok (.iconst 0, 1) := by decide +kernel
theorem dL_law_937 : decode cL_law 937 = .ok (.ireturn, 1) := by decide +kernel
theorem dL_law_938 : decode cL_law 938 = .ok (.iload 6, 2) := by decide +kernel
theorem dL_law_940 : decode cL_law 940 = .ok (.ifCond .ne 15, 3) := by decide +kernel
theorem dL_law_943 : decode cL_law 943 = .ok (.aload_n 3, 1) := by decide +kernel
theorem dL_law_944 : decode cL_law 944 = .ok (.iconst 0, 1) := by decide +kernel
theorem dL_law_945 : decode cL_law 945 = .ok (.laload, 1) := by decide +kernel
theorem dL_law_946 : decode cL_law 946 = .ok (.iload 7, 2) := by decide +kernel
theorem dL_law_948 : decode cL_law 948 = .ok (.i2l, 1) := by decide +kernel
theorem dL_law_949 : decode cL_law 949 = .ok (.lcmp, 1) := by decide +kernel
theorem dL_law_950 : decode cL_law 950 = .ok (.ifCond .eq 5, 3) := by decide +kernel
theorem dL_law_953 : decode cL_law 953 = .ok (.iconst 0, 1) := by decide +kernel
theorem dL_law_954 : decode cL_law 954 = .ok (.ireturn, 1) := by decide +kernel
theorem dL_law_955 : decode cL_law 955 = .ok (.goto 980, 3) := by decide +kernel
theorem dL_law_958 : decode cL_law 958 = .ok (.aload_n 1, 1) := by decide +kernel
theorem dL_law_959 : decode cL_law 959 = .ok (.aload_n 0, 1) := by decide +kernel
theorem dL_law_960 : decode cL_law 960 = .ok (.iload 5, 2) := by decide +kernel
theorem dL_law_962 : decode cL_law 962 = .ok (.iconst 1, 1) := by decide +kernel
theorem dL_law_963 : decode cL_law 963 = .ok (.iadd, 1) := by decide +kernel
theorem dL_law_964 : decode cL_law 964 = .ok (.iaload, 1) := by decide +kernel
theorem dL_law_965 : decode cL_law 965 = .ok (.aload_n 0, 1) := by decide +kernel
theorem dL_law_966 : decode cL_law 966 = .ok (.iload 5, 2) := by decide +kernel
theorem dL_law_968 : decode cL_law 968 = .ok (.iconst 2, 1) := by decide +kernel
theorem dL_law_969 : decode cL_law 969 = .ok (.iadd, 1) := by decide +kernel
theorem dL_law_970 : decode cL_law 970 = .ok (.iaload, 1) := by decide +kernel
theorem dL_law_971 : decode cL_law 971 = .ok (.aload_n 3, 1) := by decide +kernel
theorem dL_law_972 : decode cL_law 972 = .ok (.invokestatic 152, 3) := by decide +kernel
theorem dL_law_975 : decode cL_law 975 = .ok (.istore 6, 2) := by decide +kernel
theorem dL_law_977 : decode cL_law 977 = .ok (.aload_n 2, 1) := by decide +kernel
theorem dL_law_978 : decode cL_law 978 = .ok (.aload_n 0, 1) := by decide +kernel
theorem dL_law_979 : decode cL_law 979 = .ok (.iload 5, 2) := by decide +kernel
theorem dL_law_981 : decode cL_law 981 = .ok (.iconst 1, 1) := by decide +kernel
theorem dL_law_982 : decode cL_law 982 = .ok (.iadd, 1) := by decide +kernel
theorem dL_law_983 : decode cL_law 983 = .ok (.iaload, 1) := by decide +kernel
theorem dL_law_984 : decode cL_law 984 = .ok (.aload_n 0, 1) := by decide +kernel
theorem dL_law_985 : decode cL_law 985 = .ok (.iload 5, 2) := by decide +kernel
theorem dL_law_987 : decode cL_law 987 = .ok (.iconst 2, 1) := by decide +kernel
theorem dL_law_988 : decode cL_law 988 = .ok (.iadd, 1) := by decide +kernel
theorem dL_law_989 : decode cL_law 989 = .ok (.iaload, 1) := by decide +kernel
theorem dL_law_990 : decode cL_law 990 = .ok (.invokevirtual 154, 3) := by decide +kernel
theorem dL_law_993 : decode cL_law 993 = .ok (.istore 7, 2) := by decide +kernel
theorem dL_law_995 : decode cL_law 995 = .ok (.aload_n 2, 1) := by decide +kernel
theorem dL_law_996 : decode cL_law 996 = .ok (.invokevirtual 114, 3) := by decide +kernel
theorem dL_law_999 : decode cL_law 999 = .ok (.iload 6, 2) := by decide +kernel
theorem dL_law_1001 : decode cL_law 1001 = .ok (.if_icmp .eq 5, 3) := by decide +kernel
theorem dL_law_1004 : decode cL_law 1004 = .ok (.iconst 0, 1) := by decide +kernel
theorem dL_law_1005 : decode cL_law 1005 = .ok (.ireturn, 1) := by decide +kernel
theorem dL_law_1006 : decode cL_law 1006 = .ok (.iload 6, 2) := by decide +kernel
theorem dL_law_1008 : decode cL_law 1008 = .ok (.ifCond .ne 15, 3) := by decide +kernel
theorem dL_law_1011 : decode cL_law 1011 = .ok (.aload_n 3, 1) := by decide +kernel
theorem dL_law_1012 : decode cL_law 1012 = .ok (.iconst 0, 1) := by decide +kernel
theorem dL_law_1013 : decode cL_law 1013 = .ok (.laload, 1) := by decide +kernel
theorem dL_law_1014 : decode cL_law 1014 = .ok (.iload 7, 2) := by decide +kernel
theorem dL_law_1016 : decode cL_law 1016 = .ok (.i2l, 1) := by decide +kernel
theorem dL_law_1017 : decode cL_law 1017 = .ok (.lcmp, 1) := by decide +kernel
theorem dL_law_1018 : decode cL_law 1018 = .ok (.ifCond .eq 5, 3) := by decide +kernel
theorem dL_law_1021 : decode cL_law 1021 = .ok (.iconst 0, 1) := by decide +kernel
theorem dL_law_1022 : decode cL_law 1022 = .ok (.ireturn, 1) := by decide +kernel
theorem dL_law_1023 : decode cL_law 1023 = .ok (.goto 912, 3) := by decide +kernel
theorem dL_law_1026 : decode cL_law 1026 = .ok (.aload_n 1, 1) := by decide +kernel
theorem dL_law_1027 : decode cL_law 1027 = .ok (.aload_n 0, 1) := by decide +kernel
theorem dL_law_1028 : decode cL_law 1028 = .ok (.iload 5, 2) := by decide +kernel
theorem dL_law_1030 : decode cL_law 1030 = .ok (.iconst 1, 1) := by decide +kernel
theorem dL_law_1031 : decode cL_law 1031 = .ok (.iadd, 1) := by decide +kernel
theorem dL_law_1032 : decode cL_law 1032 = .ok (.iaload, 1) := by decide +kernel
theorem dL_law_1033 : decode cL_law 1033 = .ok (.aload_n 0, 1) := by decide +kernel
theorem dL_law_1034 : decode cL_law 1034 = .ok (.iload 5, 2) := by decide +kernel
theorem dL_law_1036 : decode cL_law 1036 = .ok (.iconst 2, 1) := by decide +kernel
theorem dL_law_1037 : decode cL_law 1037 = .ok (.iadd, 1) := by decide +kernel
theorem dL_law_1038 : decode cL_law 1038 = .ok (.iaload, 1) := by decide +kernel
theorem dL_law_1039 : decode cL_law 1039 = .ok (.aload_n 3, 1) := by decide +kernel
theorem dL_law_1040 : decode cL_law 1040 = .ok (.invokestatic 155, 3) := by decide +kernel
theorem dL_law_1043 : decode cL_law 1043 = .ok (.istore 6, 2) := by decide +kernel
theorem dL_law_1045 : decode cL_law 1045 = .ok (.aload_n 2, 1) := by decide +kernel
theorem dL_law_1046 : decode cL_law 1046 = .ok (.aload_n 0, 1) := by decide +kernel
theorem dL_law_1047 : decode cL_law 1047 = .ok (.iload 5, 2) := by decide +kernel
theorem dL_law_1049 : decode cL_law 1049 = .ok (.iconst 1, 1) := by decide +kernel
theorem dL_law_1050 : decode cL_law 1050 = .ok (.iadd, 1) := by decide +kernel
theorem dL_law_1051 : decode cL_law 1051 = .ok (.iaload, 1) := by decide +kernel
theorem dL_law_1052 : decode cL_law 1052 = .ok (.aload_n 0, 1) := by decide +kernel
theorem dL_law_1053 : decode cL_law 1053 = .ok (.iload 5, 2) := by decide +kernel
theorem dL_law_1055 : decode cL_law 1055 = .ok (.iconst 2, 1) := by decide +kernel
theorem dL_law_1056 : decode cL_law 1056 = .ok (.iadd, 1) := by decide +kernel
theorem dL_law_1057 : decode cL_law 1057 = .ok (.iaload, 1) := by decide +kernel
theorem dL_law_1058 : decode cL_law 1058 = .ok (.invokevirtual 157, 3) := by decide +kernel
theorem dL_law_1061 : decode cL_law 1061 = .ok (.istore 7, 2) := by decide +kernel
theorem dL_law_1063 : decode cL_law 1063 = .ok (.aload_n 2, 1) := by decide +kernel
theorem dL_law_1064 : decode cL_law 1064 = .ok (.invokevirtual 114, 3) := by decide +kernel
theorem dL_law_1067 : decode cL_law 1067 = .ok (.iload 6, 2) := by decide +kernel
theorem dL_law_1069 : decode cL_law 1069 = .ok (.if_icmp .eq 5, 3) := by decide +kernel
theorem dL_law_1072 : decode cL_law 1072 = .ok (.iconst 0, 1) := by decide +kernel
theorem dL_law_1073 : decode cL_law 1073 = .ok (.ireturn, 1) := by decide +kernel
theorem dL_law_1074 : decode cL_law 1074 = .ok (.iload 6, 2) := by decide +kernel
theorem dL_law_1076 : decode cL_law 1076 = .ok (.ifCond .ne 15, 3) := by decide +kernel
theorem dL_law_1079 : decode cL_law 1079 = .ok (.aload_n 3, 1) := by decide +kernel
theorem dL_law_1080 : decode cL_law 1080 = .ok (.iconst 0, 1) := by decide +kernel
theorem dL_law_1081 : decode cL_law 1081 = .ok (.laload, 1) := by decide +kernel
theorem dL_law_1082 : decode cL_law 1082 = .ok (.iload 7, 2) := by decide +kernel
theorem dL_law_1084 : decode cL_law 1084 = .ok (.i2l, 1) := by decide +kernel
theorem dL_law_1085 : decode cL_law 1085 = .ok (.lcmp, 1) := by decide +kernel
theorem dL_law_1086 : decode cL_law 1086 = .ok (.ifCond .eq 5, 3) := by decide +kernel
theorem dL_law_1089 : decode cL_law 1089 = .ok (.iconst 0, 1) := by decide +kernel
theorem dL_law_1090 : decode cL_law 1090 = .ok (.ireturn, 1) := by decide +kernel
theorem dL_law_1091 : decode cL_law 1091 = .ok (.goto 844, 3) := by decide +kernel
theorem dL_law_1094 : decode cL_law 1094 = .ok (.aload_n 1, 1) := by decide +kernel
theorem dL_law_1095 : decode cL_law 1095 = .ok (.aload_n 0, 1) := by decide +kernel
theorem dL_law_1096 : decode cL_law 1096 = .ok (.iload 5, 2) := by decide +kernel
theorem dL_law_1098 : decode cL_law 1098 = .ok (.iconst 1, 1) := by decide +kernel
theorem dL_law_1099 : decode cL_law 1099 = .ok (.iadd, 1) := by decide +kernel
theorem dL_law_1100 : decode cL_law 1100 = .ok (.iaload, 1) := by decide +kernel
theorem dL_law_1101 : decode cL_law 1101 = .ok (.aload_n 3, 1) := by decide +kernel
theorem dL_law_1102 : decode cL_law 1102 = .ok (.invokestatic 158, 3) := by decide +kernel
theorem dL_law_1105 : decode cL_law 1105 = .ok (.istore 6, 2) := by decide +kernel
theorem dL_law_1107 : decode cL_law 1107 = .ok (.aload_n 2, 1) := by decide +kernel
theorem dL_law_1108 : decode cL_law 1108 = .ok (.aload_n 0, 1) := by decide +kernel
theorem dL_law_1109 : decode cL_law 1109 = .ok (.iload 5, 2) := by decide +kernel
theorem dL_law_1111 : decode cL_law 1111 = .ok (.iconst 1, 1) := by decide +kernel
theorem dL_law_1112 : decode cL_law 1112 = .ok (.iadd, 1) := by decide +kernel
theorem dL_law_1113 : decode cL_law 1113 = .ok (.iaload, 1) := by decide +kernel
theorem dL_law_1114 : decode cL_law 1114 = .ok (.invokevirtual 160, 3) := by decide +kernel
theorem dL_law_1117 : decode cL_law 1117 = .ok (.istore 7, 2) := by decide +kernel
theorem dL_law_1119 : decode cL_law 1119 = .ok (.aload_n 2, 1) := by decide +kernel
theorem dL_law_1120 : decode cL_law 1120 = .ok (.invokevirtual 114, 3) := by decide +kernel
theorem dL_law_1123 : decode cL_law 1123 = .ok (.iload 6, 2) := by decide +kernel
theorem dL_law_1125 : decode cL_law 1125 = .ok (.if_icmp .eq 5, 3) := by decide +kernel
theorem dL_law_1128 : decode cL_law 1128 = .ok (.iconst 0, 1) := by decide +kernel
theorem dL_law_1129 : decode cL_law 1129 = .ok (.ireturn, 1) := by decide +kernel
theorem dL_law_1130 : decode cL_law 1130 = .ok (.iload 6, 2) := by decide +kernel
theorem dL_law_1132 : decode cL_law 1132 = .ok (.ifCond .ne 15, 3) := by decide +kernel
theorem dL_law_1135 : decode cL_law 1135 = .ok (.aload_n 3, 1) := by decide +kernel
theorem dL_law_1136 : decode cL_law 1136 = .ok (.iconst 0, 1) := by decide +kernel
theorem dL_law_1137 : decode cL_law 1137 = .ok (.laload, 1) := by decide +kernel
theorem dL_law_1138 : decode cL_law 1138 = .ok (.iload 7, 2) := by decide +kernel
theorem dL_law_1140 : decode cL_law 1140 = .ok (.i2l, 1) := by decide +kernel
theorem dL_law_1141 : decode cL_law 1141 = .ok (.lcmp, 1) := by decide +kernel
theorem dL_law_1142 : decode cL_law 1142 = .ok (.ifCond .eq 5, 3) := by decide +kernel
theorem dL_law_1145 : decode cL_law 1145 = .ok (.iconst 0, 1) := by decide +kernel
theorem dL_law_1146 : decode cL_law 1146 = .ok (.ireturn, 1) := by decide +kernel
theorem dL_law_1147 : decode cL_law 1147 = .ok (.goto 788, 3) := by decide +kernel
theorem dL_law_1150 : decode cL_law 1150 = .ok (.aload_n 1, 1) := by decide +kernel
theorem dL_law_1151 : decode cL_law 1151 = .ok (.aload_n 0, 1) := by decide +kernel
theorem dL_law_1152 : decode cL_law 1152 = .ok (.iload 5, 2) := by decide +kernel
theorem dL_law_1154 : decode cL_law 1154 = .ok (.iconst 1, 1) := by decide +kernel
theorem dL_law_1155 : decode cL_law 1155 = .ok (.iadd, 1) := by decide +kernel
theorem dL_law_1156 : decode cL_law 1156 = .ok (.iaload, 1) := by decide +kernel
theorem dL_law_1157 : decode cL_law 1157 = .ok (.aload_n 0, 1) := by decide +kernel
theorem dL_law_1158 : decode cL_law 1158 = .ok (.iload 5, 2) := by decide +kernel
theorem dL_law_1160 : decode cL_law 1160 = .ok (.iconst 2, 1) := by decide +kernel
theorem dL_law_1161 : decode cL_law 1161 = .ok (.iadd, 1) := by decide +kernel
theorem dL_law_1162 : decode cL_law 1162 = .ok (.iaload, 1) := by decide +kernel
theorem dL_law_1163 : decode cL_law 1163 = .ok (.aload_n 3, 1) := by decide +kernel
theorem dL_law_1164 : decode cL_law 1164 = .ok (.invokestatic 161, 3) := by decide +kernel
theorem dL_law_1167 : decode cL_law 1167 = .ok (.istore 6, 2) := by decide +kernel
theorem dL_law_1169 : decode cL_law 1169 = .ok (.aload_n 2, 1) := by decide +kernel
theorem dL_law_1170 : decode cL_law 1170 = .ok (.aload_n 0, 1) := by decide +kernel
theorem dL_law_1171 : decode cL_law 1171 = .ok (.iload 5, 2) := by decide +kernel
theorem dL_law_1173 : decode cL_law 1173 = .ok (.iconst 1, 1) := by decide +kernel
theorem dL_law_1174 : decode cL_law 1174 = .ok (.iadd, 1) := by decide +kernel
theorem dL_law_1175 : decode cL_law 1175 = .ok (.iaload, 1) := by decide +kernel
theorem dL_law_1176 : decode cL_law 1176 = .ok (.aload_n 0, 1) := by decide +kernel
theorem dL_law_1177 : decode cL_law 1177 = .ok (.iload 5, 2) := by decide +kernel
theorem dL_law_1179 : decode cL_law 1179 = .ok (.iconst 2, 1) := by decide +kernel
theorem dL_law_1180 : decode cL_law 1180 = .ok (.iadd, 1) := by decide +kernel
theorem dL_law_1181 : decode cL_law 1181 = .ok (.iaload, 1) := by decide +kernel
theorem dL_law_1182 : decode cL_law 1182 = .ok (.invokevirtual 163, 3) := by decide +kernel
theorem dL_law_1185 : decode cL_law 1185 = .ok (.istore 7, 2) := by decide +kernel
theorem dL_law_1187 : decode cL_law 1187 = .ok (.aload_n 2, 1) := by decide +kernel
theorem dL_law_1188 : decode cL_law 1188 = .ok (.invokevirtual 114, 3) := by decide +kernel
theorem dL_law_1191 : decode cL_law 1191 = .ok (.iload 6, 2) := by decide +kernel
theorem dL_law_1193 : decode cL_law 1193 = .ok (.if_icmp .eq 5, 3) := by decide +kernel
theorem dL_law_1196 : decode cL_law 1196 = .ok (.iconst 0, 1) := by decide +kernel
theorem dL_law_1197 : decode cL_law 1197 = .ok (.ireturn, 1) := by decide +kernel
theorem dL_law_1198 : decode cL_law 1198 = .ok (.iload 6, 2) := by decide +kernel
theorem dL_law_1200 : decode cL_law 1200 = .ok (.ifCond .ne 15, 3) := by decide +kernel
theorem dL_law_1203 : decode cL_law 1203 = .ok (.aload_n 3, 1) := by decide +kernel
theorem dL_law_1204 : decode cL_law 1204 = .ok (.iconst 0, 1) := by decide +kernel
theorem dL_law_1205 : decode cL_law 1205 = .ok (.laload, 1) := by decide +kernel
theorem dL_law_1206 : decode cL_law 1206 = .ok (.iload 7, 2) := by decide +kernel
theorem dL_law_1208 : decode cL_law 1208 = .ok (.i2l, 1) := by decide +kernel
theorem dL_law_1209 : decode cL_law 1209 = .ok (.lcmp, 1) := by decide +kernel
theorem dL_law_1210 : decode cL_law 1210 = .ok (.ifCond .eq 5, 3) := by decide +kernel
theorem dL_law_1213 : decode cL_law 1213 = .ok (.iconst 0, 1) := by decide +kernel
theorem dL_law_1214 : decode cL_law 1214 = .ok (.ireturn, 1) := by decide +kernel
theorem dL_law_1215 : decode cL_law 1215 = .ok (.goto 720, 3) := by decide +kernel
theorem dL_law_1218 : decode cL_law 1218 = .ok (.aload_n 1, 1) := by decide +kernel
theorem dL_law_1219 : decode cL_law 1219 = .ok (.aload_n 0, 1) := by decide +kernel
theorem dL_law_1220 : decode cL_law 1220 = .ok (.iload 5, 2) := by decide +kernel
theorem dL_law_1222 : decode cL_law 1222 = .ok (.iconst 1, 1) := by decide +kernel
theorem dL_law_1223 : decode cL_law 1223 = .ok (.iadd, 1) := by decide +kernel
theorem dL_law_1224 : decode cL_law 1224 = .ok (.iaload, 1) := by decide +kernel
theorem dL_law_1225 : decode cL_law 1225 = .ok (.aload_n 3, 1) := by decide +kernel
theorem dL_law_1226 : decode cL_law 1226 = .ok (.invokestatic 164, 3) := by decide +kernel
theorem dL_law_1229 : decode cL_law 1229 = .ok (.istore 6, 2) := by decide +kernel
theorem dL_law_1231 : decode cL_law 1231 = .ok (.aload_n 2, 1) := by decide +kernel
theorem dL_law_1232 : decode cL_law 1232 = .ok (.aload_n 0, 1) := by decide +kernel
theorem dL_law_1233 : decode cL_law 1233 = .ok (.iload 5, 2) := by decide +kernel
theorem dL_law_1235 : decode cL_law 1235 = .ok (.iconst 1, 1) := by decide +kernel
theorem dL_law_1236 : decode cL_law 1236 = .ok (.iadd, 1) := by decide +kernel
theorem dL_law_1237 : decode cL_law 1237 = .ok (.iaload, 1) := by decide +kernel
theorem dL_law_1238 : decode cL_law 1238 = .ok (.invokevirtual 166, 3) := by decide +kernel
theorem dL_law_1241 : decode cL_law 1241 = .ok (.istore 7, 2) := by decide +kernel
theorem dL_law_1243 : decode cL_law 1243 = .ok (.aload_n 2, 1) := by decide +kernel
theorem dL_law_1244 : decode cL_law 1244 = .ok (.invokevirtual 114, 3) := by decide +kernel
theorem dL_law_1247 : decode cL_law 1247 = .ok (.iload 6, 2) := by decide +kernel
theorem dL_law_1249 : decode cL_law 1249 = .ok (.if_icmp .eq 5, 3) := by decide +kernel
theorem dL_law_1252 : decode cL_law 1252 = .ok (.iconst 0, 1) := by decide +kernel
theorem dL_law_1253 : decode cL_law 1253 = .ok (.ireturn, 1) := by decide +kernel
theorem dL_law_1254 : decode cL_law 1254 = .ok (.iload 6, 2) := by decide +kernel
theorem dL_law_1256 : decode cL_law 1256 = .ok (.ifCond .ne 15, 3) := by decide +kernel
theorem dL_law_1259 : decode cL_law 1259 = .ok (.aload_n 3, 1) := by decide +kernel
theorem dL_law_1260 : decode cL_law 1260 = .ok (.iconst 0, 1) := by decide +kernel
theorem dL_law_1261 : decode cL_law 1261 = .ok (.laload, 1) := by decide +kernel
theorem dL_law_1262 : decode cL_law 1262 = .ok (.iload 7, 2) := by decide +kernel
theorem dL_law_1264 : decode cL_law 1264 = .ok (.i2l, 1) := by decide +kernel
theorem dL_law_1265 : decode cL_law 1265 = .ok (.lcmp, 1) := by decide +kernel
theorem dL_law_1266 : decode cL_law 1266 = .ok (.ifCond .eq 5, 3) := by decide +kernel
theorem dL_law_1269 : decode cL_law 1269 = .ok (.iconst 0, 1) := by decide +kernel
theorem dL_law_1270 : decode cL_law 1270 = .ok (.ireturn, 1) := by decide +kernel
theorem dL_law_1271 : decode cL_law 1271 = .ok (.goto 664, 3) := by decide +kernel
theorem dL_law_1274 : decode cL_law 1274 = .ok (.aload_n 1, 1) := by decide +kernel
theorem dL_law_1275 : decode cL_law 1275 = .ok (.aload_n 0, 1) := by decide +kernel
theorem dL_law_1276 : decode cL_law 1276 = .ok (.iload 5, 2) := by decide +kernel
theorem dL_law_1278 : decode cL_law 1278 = .ok (.iconst 1, 1) := by decide +kernel
theorem dL_law_1279 : decode cL_law 1279 = .ok (.iadd, 1) := by decide +kernel
theorem dL_law_1280 : decode cL_law 1280 = .ok (.iaload, 1) := by decide +kernel
theorem dL_law_1281 : decode cL_law 1281 = .ok (.aload_n 3, 1) := by decide +kernel
theorem dL_law_1282 : decode cL_law 1282 = .ok (.invokestatic 167, 3) := by decide +kernel
theorem dL_law_1285 : decode cL_law 1285 = .ok (.istore 6, 2) := by decide +kernel
theorem dL_law_1287 : decode cL_law 1287 = .ok (.aload_n 2, 1) := by decide +kernel
theorem dL_law_1288 : decode cL_law 1288 = .ok (.aload_n 0, 1) := by decide +kernel
theorem dL_law_1289 : decode cL_law 1289 = .ok (.iload 5, 2) := by decide +kernel
theorem dL_law_1291 : decode cL_law 1291 = .ok (.iconst 1, 1) := by decide +kernel
theorem dL_law_1292 : decode cL_law 1292 = .ok (.iadd, 1) := by decide +kernel
theorem dL_law_1293 : decode cL_law 1293 = .ok (.iaload, 1) := by decide +kernel
theorem dL_law_1294 : decode cL_law 1294 = .ok (.invokevirtual 169, 3) := by decide +kernel
theorem dL_law_1297 : decode cL_law 1297 = .ok (.istore 7, 2) := by decide +kernel
theorem dL_law_1299 : decode cL_law 1299 = .ok (.aload_n 2, 1) := by decide +kernel
theorem dL_law_1300 : decode cL_law 1300 = .ok (.invokevirtual 114, 3) := by decide +kernel
theorem dL_law_1303 : decode cL_law 1303 = .ok (.iload 6, 2) := by decide +kernel
theorem dL_law_1305 : decode cL_law 1305 = .ok (.if_icmp .eq 5, 3) := by decide +kernel
theorem dL_law_1308 : decode cL_law 1308 = .ok (.iconst 0, 1) := by decide +kernel
theorem dL_law_1309 : decode cL_law 1309 = .ok (.ireturn, 1) := by decide +kernel
theorem dL_law_1310 : decode cL_law 1310 = .ok (.iload 6, 2) := by decide +kernel
theorem dL_law_1312 : decode cL_law 1312 = .ok (.ifCond .ne 15, 3) := by decide +kernel
theorem dL_law_1315 : decode cL_law 1315 = .ok (.aload_n 3, 1) := by decide +kernel
theorem dL_law_1316 : decode cL_law 1316 = .ok (.iconst 0, 1) := by decide +kernel
theorem dL_law_1317 : decode cL_law 1317 = .ok (.laload, 1) := by decide +kernel
theorem dL_law_1318 : decode cL_law 1318 = .ok (.iload 7, 2) := by decide +kernel
theorem dL_law_1320 : decode cL_law 1320 = .ok (.i2l, 1) := by decide +kernel
theorem dL_law_1321 : decode cL_law 1321 = .ok (.lcmp, 1) := by decide +kernel
theorem dL_law_1322 : decode cL_law 1322 = .ok (.ifCond .eq 5, 3) := by decide +kernel
theorem dL_law_1325 : decode cL_law 1325 = .ok (.iconst 0, 1) := by decide +kernel
theorem dL_law_1326 : decode cL_law 1326 = .ok (.ireturn, 1) := by decide +kernel
theorem dL_law_1327 : decode cL_law 1327 = .ok (.goto 608, 3) := by decide +kernel
theorem dL_law_1330 : decode cL_law 1330 = .ok (.aload_n 1, 1) := by decide +kernel
theorem dL_law_1331 : decode cL_law 1331 = .ok (.aload_n 0, 1) := by decide +kernel
theorem dL_law_1332 : decode cL_law 1332 = .ok (.iload 5, 2) := by decide +kernel
theorem dL_law_1334 : decode cL_law 1334 = .ok (.iconst 1, 1) := by decide +kernel
theorem dL_law_1335 : decode cL_law 1335 = .ok (.iadd, 1) := by decide +kernel
theorem dL_law_1336 : decode cL_law 1336 = .ok (.iaload, 1) := by decide +kernel
theorem dL_law_1337 : decode cL_law 1337 = .ok (.aload_n 3, 1) := by decide +kernel
theorem dL_law_1338 : decode cL_law 1338 = .ok (.invokestatic 170, 3) := by decide +kernel
theorem dL_law_1341 : decode cL_law 1341 = .ok (.istore 6, 2) := by decide +kernel
theorem dL_law_1343 : decode cL_law 1343 = .ok (.aload_n 2, 1) := by decide +kernel
theorem dL_law_1344 : decode cL_law 1344 = .ok (.aload_n 0, 1) := by decide +kernel
theorem dL_law_1345 : decode cL_law 1345 = .ok (.iload 5, 2) := by decide +kernel
theorem dL_law_1347 : decode cL_law 1347 = .ok (.iconst 1, 1) := by decide +kernel
theorem dL_law_1348 : decode cL_law 1348 = .ok (.iadd, 1) := by decide +kernel
theorem dL_law_1349 : decode cL_law 1349 = .ok (.iaload, 1) := by decide +kernel
theorem dL_law_1350 : decode cL_law 1350 = .ok (.invokevirtual 172, 3) := by decide +kernel
theorem dL_law_1353 : decode cL_law 1353 = .ok (.istore 7, 2) := by decide +kernel
theorem dL_law_1355 : decode cL_law 1355 = .ok (.aload_n 2, 1) := by decide +kernel
theorem dL_law_1356 : decode cL_law 1356 = .ok (.invokevirtual 114, 3) := by decide +kernel
theorem dL_law_1359 : decode cL_law 1359 = .ok (.iload 6, 2) := by decide +kernel
theorem dL_law_1361 : decode cL_law 1361 = .ok (.if_icmp .eq 5, 3) := by decide +kernel
theorem dL_law_1364 : decode cL_law 1364 = .ok (.iconst 0, 1) := by decide +kernel
theorem dL_law_1365 : decode cL_law 1365 = .ok (.ireturn, 1) := by decide +kernel
theorem dL_law_1366 : decode cL_law 1366 = .ok (.iload 6, 2) := by decide +kernel
theorem dL_law_1368 : decode cL_law 1368 = .ok (.ifCond .ne 15, 3) := by decide +kernel
theorem dL_law_1371 : decode cL_law 1371 = .ok (.aload_n 3, 1) := by decide +kernel
theorem dL_law_1372 : decode cL_law 1372 = .ok (.iconst 0, 1) := by decide +kernel
theorem dL_law_1373 : decode cL_law 1373 = .ok (.laload, 1) := by decide +kernel
theorem dL_law_1374 : decode cL_law 1374 = .ok (.iload 7, 2) := by decide +kernel
theorem dL_law_1376 : decode cL_law 1376 = .ok (.i2l, 1) := by decide +kernel
theorem dL_law_1377 : decode cL_law 1377 = .ok (.lcmp, 1) := by decide +kernel
theorem dL_law_1378 : decode cL_law 1378 = .ok (.ifCond .eq 5, 3) := by decide +kernel
theorem dL_law_1381 : decode cL_law 1381 = .ok (.iconst 0, 1) := by decide +kernel
theorem dL_law_1382 : decode cL_law 1382 = .ok (.ireturn, 1) := by decide +kernel
theorem dL_law_1383 : decode cL_law 1383 = .ok (.goto 552, 3) := by decide +kernel
theorem dL_law_1386 : decode cL_law 1386 = .ok (.aload_n 1, 1) := by decide +kernel
theorem dL_law_1387 : decode cL_law 1387 = .ok (.invokevirtual 173, 3) := by decide +kernel
theorem dL_law_1390 : decode cL_law 1390 = .ok (.aload_n 2, 1) := by decide +kernel
theorem dL_law_1391 : decode cL_law 1391 = .ok (.invokevirtual 176, 3) := by decide +kernel
theorem dL_law_1394 : decode cL_law 1394 = .ok (.if_icmp .eq 541, 3) := by decide +kernel
theorem dL_law_1397 : decode cL_law 1397 = .ok (.iconst 0, 1) := by decide +kernel
theorem dL_law_1398 : decode cL_law 1398 = .ok (.ireturn, 1) := by decide +kernel
theorem dL_law_1399 : decode cL_law 1399 = .ok (.aload_n 1, 1) := by decide +kernel
theorem dL_law_1400 : decode cL_law 1400 = .ok (.aload_n 3, 1) := by decide +kernel
theorem dL_law_1401 : decode cL_law 1401 = .ok (.invokestatic 177, 3) := by decide +kernel
theorem dL_law_1404 : decode cL_law 1404 = .ok (.istore 6, 2) := by decide +kernel
theorem dL_law_1406 : decode cL_law 1406 = .ok (.aload_n 2, 1) := by decide +kernel
theorem dL_law_1407 : decode cL_law 1407 = .ok (.invokevirtual 180, 3) := by decide +kernel
theorem dL_law_1410 : decode cL_law 1410 = .ok (.istore 7, 2) := by decide +kernel
theorem dL_law_1412 : decode cL_law 1412 = .ok (.aload_n 2, 1) := by decide +kernel
theorem dL_law_1413 : decode cL_law 1413 = .ok (.invokevirtual 114, 3) := by decide +kernel
theorem dL_law_1416 : decode cL_law 1416 = .ok (.iload 6, 2) := by decide +kernel
theorem dL_law_1418 : decode cL_law 1418 = .ok (.if_icmp .eq 5, 3) := by decide +kernel
theorem dL_law_1421 : decode cL_law 1421 = .ok (.iconst 0, 1) := by decide +kernel
theorem dL_law_1422 : decode cL_law 1422 = .ok (.ireturn, 1) := by decide +kernel
theorem dL_law_1423 : decode cL_law 1423 = .ok (.iload 6, 2) := by decide +kernel
theorem dL_law_1425 : decode cL_law 1425 = .ok (.ifCond .ne 15, 3) := by decide +kernel
theorem dL_law_1428 : decode cL_law 1428 = .ok (.aload_n 3, 1) := by decide +kernel
theorem dL_law_1429 : decode cL_law 1429 = .ok (.iconst 0, 1) := by decide +kernel
theorem dL_law_1430 : decode cL_law 1430 = .ok (.laload, 1) := by decide +kernel
theorem dL_law_1431 : decode cL_law 1431 = .ok (.iload 7, 2) := by decide +kernel
theorem dL_law_1433 : decode cL_law 1433 = .ok (.i2l, 1) := by decide +kernel
theorem dL_law_1434 : decode cL_law 1434 = .ok (.lcmp, 1) := by decide +kernel
theorem dL_law_1435 : decode cL_law 1435 = .ok (.ifCond .eq 5, 3) := by decide +kernel
theorem dL_law_1438 : decode cL_law 1438 = .ok (.iconst 0, 1) := by decide +kernel
theorem dL_law_1439 : decode cL_law 1439 = .ok (.ireturn, 1) := by decide +kernel
theorem dL_law_1440 : decode cL_law 1440 = .ok (.goto 495, 3) := by decide +kernel
theorem dL_law_1443 : decode cL_law 1443 = .ok (.aload_n 1, 1) := by decide +kernel
theorem dL_law_1444 : decode cL_law 1444 = .ok (.aload_n 0, 1) := by decide +kernel
theorem dL_law_1445 : decode cL_law 1445 = .ok (.iload 5, 2) := by decide +kernel
theorem dL_law_1447 : decode cL_law 1447 = .ok (.iconst 1, 1) := by decide +kernel
theorem dL_law_1448 : decode cL_law 1448 = .ok (.iadd, 1) := by decide +kernel
theorem dL_law_1449 : decode cL_law 1449 = .ok (.iaload, 1) := by decide +kernel
theorem dL_law_1450 : decode cL_law 1450 = .ok (.aload_n 3, 1) := by decide +kernel
theorem dL_law_1451 : decode cL_law 1451 = .ok (.invokestatic 181, 3) := by decide +kernel
theorem dL_law_1454 : decode cL_law 1454 = .ok (.istore 6, 2) := by decide +kernel
theorem dL_law_1456 : decode cL_law 1456 = .ok (.aload_n 2, 1) := by decide +kernel
theorem dL_law_1457 : decode cL_law 1457 = .ok (.aload_n 0, 1) := by decide +kernel
theorem dL_law_1458 : decode cL_law 1458 = .ok (.iload 5, 2) := by decide +kernel
theorem dL_law_1460 : decode cL_law 1460 = .ok (.iconst 1, 1) := by decide +kernel
theorem dL_law_1461 : decode cL_law 1461 = .ok (.iadd, 1) := by decide +kernel
theorem dL_law_1462 : decode cL_law 1462 = .ok (.iaload, 1) := by decide +kernel
theorem dL_law_1463 : decode cL_law 1463 = .ok (.invokevirtual 183, 3) := by decide +kernel
theorem dL_law_1466 : decode cL_law 1466 = .ok (.istore 7, 2) := by decide +kernel
theorem dL_law_1468 : decode cL_law 1468 = .ok (.aload_n 2, 1) := by decide +kernel
theorem dL_law_1469 : decode cL_law 1469 = .ok (.invokevirtual 114, 3) := by decide +kernel
theorem dL_law_1472 : decode cL_law 1472 = .ok (.iload 6, 2) := by decide +kernel
theorem dL_law_1474 : decode cL_law 1474 = .ok (.if_icmp .eq 5, 3) := by decide +kernel
theorem dL_law_1477 : decode cL_law 1477 = .ok (.iconst 0, 1) := by decide +kernel
theorem dL_law_1478 : decode cL_law 1478 = .ok (.ireturn, 1) := by decide +kernel
theorem dL_law_1479 : decode cL_law 1479 = .ok (.iload 6, 2) := by decide +kernel
theorem dL_law_1481 : decode cL_law 1481 = .ok (.ifCond .ne 15, 3) := by decide +kernel
theorem dL_law_1484 : decode cL_law 1484 = .ok (.aload_n 3, 1) := by decide +kernel
theorem dL_law_1485 : decode cL_law 1485 = .ok (.iconst 0, 1) := by decide +kernel
theorem dL_law_1486 : decode cL_law 1486 = .ok (.laload, 1) := by decide +kernel
theorem dL_law_1487 : decode cL_law 1487 = .ok (.iload 7, 2) := by decide +kernel
theorem dL_law_1489 : decode cL_law 1489 = .ok (.i2l, 1) := by decide +kernel
theorem dL_law_1490 : decode cL_law 1490 = .ok (.lcmp, 1) := by decide +kernel
theorem dL_law_1491 : decode cL_law 1491 = .ok (.ifCond .eq 5, 3) := by decide +kernel
theorem dL_law_1494 : decode cL_law 1494 = .ok (.iconst 0, 1) := by decide +kernel
theorem dL_law_1495 : decode cL_law 1495 = .ok (.ireturn, 1) := by decide +kernel
theorem dL_law_1496 : decode cL_law 1496 = .ok (.goto 439, 3) := by decide +kernel
theorem dL_law_1499 : decode cL_law 1499 = .ok (.aload_n 1, 1) := by decide +kernel
theorem dL_law_1500 : decode cL_law 1500 = .ok (.aload_n 0, 1) := by decide +kernel
theorem dL_law_1501 : decode cL_law 1501 = .ok (.iload 5, 2) := by decide +kernel
theorem dL_law_1503 : decode cL_law 1503 = .ok (.iconst 1, 1) := by decide +kernel
theorem dL_law_1504 : decode cL_law 1504 = .ok (.iadd, 1) := by decide +kernel
theorem dL_law_1505 : decode cL_law 1505 = .ok (.iaload, 1) := by decide +kernel
theorem dL_law_1506 : decode cL_law 1506 = .ok (.aload_n 3, 1) := by decide +kernel
theorem dL_law_1507 : decode cL_law 1507 = .ok (.invokestatic 184, 3) := by decide +kernel
theorem dL_law_1510 : decode cL_law 1510 = .ok (.istore 6, 2) := by decide +kernel
theorem dL_law_1512 : decode cL_law 1512 = .ok (.aload_n 2, 1) := by decide +kernel
theorem dL_law_1513 : decode cL_law 1513 = .ok (.aload_n 0, 1) := by decide +kernel
theorem dL_law_1514 : decode cL_law 1514 = .ok (.iload 5, 2) := by decide +kernel
theorem dL_law_1516 : decode cL_law 1516 = .ok (.iconst 1, 1) := by decide +kernel
theorem dL_law_1517 : decode cL_law 1517 = .ok (.iadd, 1) := by decide +kernel
theorem dL_law_1518 : decode cL_law 1518 = .ok (.iaload, 1) := by decide +kernel
theorem dL_law_1519 : decode cL_law 1519 = .ok (.invokevirtual 186, 3) := by decide +kernel
theorem dL_law_1522 : decode cL_law 1522 = .ok (.istore 7, 2) := by decide +kernel
theorem dL_law_1524 : decode cL_law 1524 = .ok (.aload_n 2, 1) := by decide +kernel
theorem dL_law_1525 : decode cL_law 1525 = .ok (.invokevirtual 114, 3) := by decide +kernel
theorem dL_law_1528 : decode cL_law 1528 = .ok (.iload 6, 2) := by decide +kernel
theorem dL_law_1530 : decode cL_law 1530 = .ok (.if_icmp .eq 5, 3) := by decide +kernel
theorem dL_law_1533 : decode cL_law 1533 = .ok (.iconst 0, 1) := by decide +kernel
theorem dL_law_1534 : decode cL_law 1534 = .ok (.ireturn, 1) := by decide +kernel
theorem dL_law_1535 : decode cL_law 1535 = .ok (.iload 6, 2) := by decide +kernel
theorem dL_law_1537 : decode cL_law 1537 = .ok (.ifCond .ne 15, 3) := by decide +kernel
theorem dL_law_1540 : decode cL_law 1540 = .ok (.aload_n 3, 1) := by decide +kernel
theorem dL_law_1541 : decode cL_law 1541 = .ok (.iconst 0, 1) := by decide +kernel
theorem dL_law_1542 : decode cL_law 1542 = .ok (.laload, 1) := by decide +kernel
theorem dL_law_1543 : decode cL_law 1543 = .ok (.iload 7, 2) := by decide +kernel
theorem dL_law_1545 : decode cL_law 1545 = .ok (.i2l, 1) := by decide +kernel
theorem dL_law_1546 : decode cL_law 1546 = .ok (.lcmp, 1) := by decide +kernel
theorem dL_law_1547 : decode cL_law 1547 = .ok (.ifCond .eq 5, 3) := by decide +kernel
theorem dL_law_1550 : decode cL_law 1550 = .ok (.iconst 0, 1) := by decide +kernel
theorem dL_law_1551 : decode cL_law 1551 = .ok (.ireturn, 1) := by decide +kernel
theorem dL_law_1552 : decode cL_law 1552 = .ok (.goto 383, 3) := by decide +kernel
theorem dL_law_1555 : decode cL_law 1555 = .ok (.aload_n 1, 1) := by decide +kernel
theorem dL_law_1556 : decode cL_law 1556 = .ok (.aload_n 0, 1) := by decide +kernel
theorem dL_law_1557 : decode cL_law 1557 = .ok (.iload 5, 2) := by decide +kernel
theorem dL_law_1559 : decode cL_law 1559 = .ok (.iconst 1, 1) := by decide +kernel
theorem dL_law_1560 : decode cL_law 1560 = .ok (.iadd, 1) := by decide +kernel
theorem dL_law_1561 : decode cL_law 1561 = .ok (.iaload, 1) := by decide +kernel
theorem dL_law_1562 : decode cL_law 1562 = .ok (.aload_n 3, 1) := by decide +kernel
theorem dL_law_1563 : decode cL_law 1563 = .ok (.invokestatic 187, 3) := by decide +kernel
theorem dL_law_1566 : decode cL_law 1566 = .ok (.istore 6, 2) := by decide +kernel
theorem dL_law_1568 : decode cL_law 1568 = .ok (.aload_n 2, 1) := by decide +kernel
theorem dL_law_1569 : decode cL_law 1569 = .ok (.aload_n 0, 1) := by decide +kernel
theorem dL_law_1570 : decode cL_law 1570 = .ok (.iload 5, 2) := by decide +kernel
theorem dL_law_1572 : decode cL_law 1572 = .ok (.iconst 1, 1) := by decide +kernel
theorem dL_law_1573 : decode cL_law 1573 = .ok (.iadd, 1) := by decide +kernel
theorem dL_law_1574 : decode cL_law 1574 = .ok (.iaload, 1) := by decide +kernel
theorem dL_law_1575 : decode cL_law 1575 = .ok (.invokevirtual 189, 3) := by decide +kernel
theorem dL_law_1578 : decode cL_law 1578 = .ok (.istore 7, 2) := by decide +kernel
theorem dL_law_1580 : decode cL_law 1580 = .ok (.aload_n 2, 1) := by decide +kernel
theorem dL_law_1581 : decode cL_law 1581 = .ok (.invokevirtual 114, 3) := by decide +kernel
theorem dL_law_1584 : decode cL_law 1584 = .ok (.iload 6, 2) := by decide +kernel
theorem dL_law_1586 : decode cL_law 1586 = .ok (.if_icmp .eq 5, 3) := by decide +kernel
theorem dL_law_1589 : decode cL_law 1589 = .ok (.iconst 0, 1) := by decide +kernel
theorem dL_law_1590 : decode cL_law 1590 = .ok (.ireturn, 1) := by decide +kernel
theorem dL_law_1591 : decode cL_law 1591 = .ok (.iload 6, 2) := by decide +kernel
theorem dL_law_1593 : decode cL_law 1593 = .ok (.ifCond .ne 15, 3) := by decide +kernel
theorem dL_law_1596 : decode cL_law 1596 = .ok (.aload_n 3, 1) := by decide +kernel
theorem dL_law_1597 : decode cL_law 1597 = .ok (.iconst 0, 1) := by decide +kernel
theorem dL_law_1598 : decode cL_law 1598 = .ok (.laload, 1) := by decide +kernel
theorem dL_law_1599 : decode cL_law 1599 = .ok (.iload 7, 2) := by decide +kernel
theorem dL_law_1601 : decode cL_law 1601 = .ok (.i2l, 1) := by decide +kernel
theorem dL_law_1602 : decode cL_law 1602 = .ok (.lcmp, 1) := by decide +kernel
theorem dL_law_1603 : decode cL_law 1603 = .ok (.ifCond .eq 5, 3) := by decide +kernel
theorem dL_law_1606 : decode cL_law 1606 = .ok (.iconst 0, 1) := by decide +kernel
theorem dL_law_1607 : decode cL_law 1607 = .ok (.ireturn, 1) := by decide +kernel
theorem dL_law_1608 : decode cL_law 1608 = .ok (.goto 327, 3) := by decide +kernel
theorem dL_law_1611 : decode cL_law 1611 = .ok (.aload_n 1, 1) := by decide +kernel
theorem dL_law_1612 : decode cL_law 1612 = .ok (.aload_n 0, 1) := by decide +kernel
theorem dL_law_1613 : decode cL_law 1613 = .ok (.iload 5, 2) := by decide +kernel
theorem dL_law_1615 : decode cL_law 1615 = .ok (.iconst 1, 1) := by decide +kernel
theorem dL_law_1616 : decode cL_law 1616 = .ok (.iadd, 1) := by decide +kernel
theorem dL_law_1617 : decode cL_law 1617 = .ok (.iaload, 1) := by decide +kernel
theorem dL_law_1618 : decode cL_law 1618 = .ok (.aload_n 3, 1) := by decide +kernel
theorem dL_law_1619 : decode cL_law 1619 = .ok (.invokestatic 190, 3) := by decide +kernel
theorem dL_law_1622 : decode cL_law 1622 = .ok (.istore 6, 2) := by decide +kernel
theorem dL_law_1624 : decode cL_law 1624 = .ok (.aload_n 2, 1) := by decide +kernel
theorem dL_law_1625 : decode cL_law 1625 = .ok (.aload_n 0, 1) := by decide +kernel
theorem dL_law_1626 : decode cL_law 1626 = .ok (.iload 5, 2) := by decide +kernel
theorem dL_law_1628 : decode cL_law 1628 = .ok (.iconst 1, 1) := by decide +kernel
theorem dL_law_1629 : decode cL_law 1629 = .ok (.iadd, 1) := by decide +kernel
theorem dL_law_1630 : decode cL_law 1630 = .ok (.iaload, 1) := by decide +kernel
theorem dL_law_1631 : decode cL_law 1631 = .ok (.invokevirtual 192, 3) := by decide +kernel
theorem dL_law_1634 : decode cL_law 1634 = .ok (.istore 7, 2) := by decide +kernel
theorem dL_law_1636 : decode cL_law 1636 = .ok (.aload_n 2, 1) := by decide +kernel
theorem dL_law_1637 : decode cL_law 1637 = .ok (.invokevirtual 114, 3) := by decide +kernel
theorem dL_law_1640 : decode cL_law 1640 = .ok (.iload 6, 2) := by decide +kernel
theorem dL_law_1642 : decode cL_law 1642 = .ok (.if_icmp .eq 5, 3) := by decide +kernel
theorem dL_law_1645 : decode cL_law 1645 = .ok (.iconst 0, 1) := by decide +kernel
theorem dL_law_1646 : decode cL_law 1646 = .ok (.ireturn, 1) := by decide +kernel
theorem dL_law_1647 : decode cL_law 1647 = .ok (.iload 6, 2) := by decide +kernel
theorem dL_law_1649 : decode cL_law 1649 = .ok (.ifCond .ne 15, 3) := by decide +kernel
theorem dL_law_1652 : decode cL_law 1652 = .ok (.aload_n 3, 1) := by decide +kernel
theorem dL_law_1653 : decode cL_law 1653 = .ok (.iconst 0, 1) := by decide +kernel
theorem dL_law_1654 : decode cL_law 1654 = .ok (.laload, 1) := by decide +kernel
theorem dL_law_1655 : decode cL_law 1655 = .ok (.iload 7, 2) := by decide +kernel
theorem dL_law_1657 : decode cL_law 1657 = .ok (.i2l, 1) := by decide +kernel
theorem dL_law_1658 : decode cL_law 1658 = .ok (.lcmp, 1) := by decide +kernel
theorem dL_law_1659 : decode cL_law 1659 = .ok (.ifCond .eq 5, 3) := by decide +kernel
theorem dL_law_1662 : decode cL_law 1662 = .ok (.iconst 0, 1) := by decide +kernel
theorem dL_law_1663 : decode cL_law 1663 = .ok (.ireturn, 1) := by decide +kernel
theorem dL_law_1664 : decode cL_law 1664 = .ok (.goto 271, 3) := by decide +kernel
theorem dL_law_1667 : decode cL_law 1667 = .ok (.aload_n 1, 1) := by decide +kernel
theorem dL_law_1668 : decode cL_law 1668 = .ok (.aload_n 3, 1) := by decide +kernel
theorem dL_law_1669 : decode cL_law 1669 = .ok (.invokestatic 193, 3) := by decide +kernel
theorem dL_law_1672 : decode cL_law 1672 = .ok (.istore 6, 2) := by decide +kernel
theorem dL_law_1674 : decode cL_law 1674 = .ok (.aload_n 2, 1) := by decide +kernel
theorem dL_law_1675 : decode cL_law 1675 = .ok (.invokevirtual 195, 3) := by decide +kernel
theorem dL_law_1678 : decode cL_law 1678 = .ok (.istore 7, 2) := by decide +kernel
theorem dL_law_1680 : decode cL_law 1680 = .ok (.aload_n 2, 1) := by decide +kernel
theorem dL_law_1681 : decode cL_law 1681 = .ok (.invokevirtual 114, 3) := by decide +kernel
theorem dL_law_1684 : decode cL_law 1684 = .ok (.iload 6, 2) := by decide +kernel
theorem dL_law_1686 : decode cL_law 1686 = .ok (.if_icmp .eq 5, 3) := by decide +kernel
theorem dL_law_1689 : decode cL_law 1689 = .ok (.iconst 0, 1) := by decide +kernel
theorem dL_law_1690 : decode cL_law 1690 = .ok (.ireturn, 1) := by decide +kernel
theorem dL_law_1691 : decode cL_law 1691 = .ok (.iload 6, 2) := by decide +kernel
theorem dL_law_1693 : decode cL_law 1693 = .ok (.ifCond .ne 15, 3) := by decide +kernel
theorem dL_law_1696 : decode cL_law 1696 = .ok (.aload_n 3, 1) := by decide +kernel
theorem dL_law_1697 : decode cL_law 1697 = .ok (.iconst 0, 1) := by decide +kernel
theorem dL_law_1698 : decode cL_law 1698 = .ok (.laload, 1) := by decide +kernel
theorem dL_law_1699 : decode cL_law 1699 = .ok (.iload 7, 2) := by decide +kernel
theorem dL_law_1701 : decode cL_law 1701 = .ok (.i2l, 1) := by decide +kernel
theorem dL_law_1702 : decode cL_law 1702 = .ok (.lcmp, 1) := by decide +kernel
theorem dL_law_1703 : decode cL_law 1703 = .ok (.ifCond .eq 5, 3) := by decide +kernel
theorem dL_law_1706 : decode cL_law 1706 = .ok (.iconst 0, 1) := by decide +kernel
theorem dL_law_1707 : decode cL_law 1707 = .ok (.ireturn, 1) := by decide +kernel
theorem dL_law_1708 : decode cL_law 1708 = .ok (.goto 227, 3) := by decide +kernel
theorem dL_law_1711 : decode cL_law 1711 = .ok (.aload_n 1, 1) := by decide +kernel
theorem dL_law_1712 : decode cL_law 1712 = .ok (.aload_n 3, 1) := by decide +kernel
theorem dL_law_1713 : decode cL_law 1713 = .ok (.invokestatic 196, 3) := by decide +kernel
theorem dL_law_1716 : decode cL_law 1716 = .ok (.istore 6, 2) := by decide +kernel
theorem dL_law_1718 : decode cL_law 1718 = .ok (.aload_n 2, 1) := by decide +kernel
theorem dL_law_1719 : decode cL_law 1719 = .ok (.invokevirtual 198, 3) := by decide +kernel
theorem dL_law_1722 : decode cL_law 1722 = .ok (.istore 7, 2) := by decide +kernel
theorem dL_law_1724 : decode cL_law 1724 = .ok (.aload_n 2, 1) := by decide +kernel
theorem dL_law_1725 : decode cL_law 1725 = .ok (.invokevirtual 114, 3) := by decide +kernel
theorem dL_law_1728 : decode cL_law 1728 = .ok (.iload 6, 2) := by decide +kernel
theorem dL_law_1730 : decode cL_law 1730 = .ok (.if_icmp .eq 5, 3) := by decide +kernel
theorem dL_law_1733 : decode cL_law 1733 = .ok (.iconst 0, 1) := by decide +kernel
theorem dL_law_1734 : decode cL_law 1734 = .ok (.ireturn, 1) := by decide +kernel
theorem dL_law_1735 : decode cL_law 1735 = .ok (.iload 6, 2) := by decide +kernel
theorem dL_law_1737 : decode cL_law 1737 = .ok (.ifCond .ne 15, 3) := by decide +kernel
theorem dL_law_1740 : decode cL_law 1740 = .ok (.aload_n 3, 1) := by decide +kernel
theorem dL_law_1741 : decode cL_law 1741 = .ok (.iconst 0, 1) := by decide +kernel
theorem dL_law_1742 : decode cL_law 1742 = .ok (.laload, 1) := by decide +kernel
theorem dL_law_1743 : decode cL_law 1743 = .ok (.iload 7, 2) := by decide +kernel
theorem dL_law_1745 : decode cL_law 1745 = .ok (.i2l, 1) := by decide +kernel
theorem dL_law_1746 : decode cL_law 1746 = .ok (.lcmp, 1) := by decide +kernel
theorem dL_law_1747 : decode cL_law 1747 = .ok (.ifCond .eq 5, 3) := by decide +kernel
theorem dL_law_1750 : decode cL_law 1750 = .ok (.iconst 0, 1) := by decide +kernel
theorem dL_law_1751 : decode cL_law 1751 = .ok (.ireturn, 1) := by decide +kernel
theorem dL_law_1752 : decode cL_law 1752 = .ok (.goto 183, 3) := by decide +kernel
theorem dL_law_1755 : decode cL_law 1755 = .ok (.aload_n 1, 1) := by decide +kernel
theorem dL_law_1756 : decode cL_law 1756 = .ok (.aload_n 0, 1) := by decide +kernel
theorem dL_law_1757 : decode cL_law 1757 = .ok (.iload 5, 2) := by decide +kernel
theorem dL_law_1759 : decode cL_law 1759 = .ok (.iconst 1, 1) := by decide +kernel
theorem dL_law_1760 : decode cL_law 1760 = .ok (.iadd, 1) := by decide +kernel
theorem dL_law_1761 : decode cL_law 1761 = .ok (.iaload, 1) := by decide +kernel
theorem dL_law_1762 : decode cL_law 1762 = .ok (.aload_n 3, 1) := by decide +kernel
theorem dL_law_1763 : decode cL_law 1763 = .ok (.invokestatic 199, 3) := by decide +kernel
theorem dL_law_1766 : decode cL_law 1766 = .ok (.istore 6, 2) := by decide +kernel
theorem dL_law_1768 : decode cL_law 1768 = .ok (.aload_n 2, 1) := by decide +kernel
theorem dL_law_1769 : decode cL_law 1769 = .ok (.aload_n 0, 1) := by decide +kernel
theorem dL_law_1770 : decode cL_law 1770 = .ok (.iload 5, 2) := by decide +kernel
theorem dL_law_1772 : decode cL_law 1772 = .ok (.iconst 1, 1) := by decide +kernel
theorem dL_law_1773 : decode cL_law 1773 = .ok (.iadd, 1) := by decide +kernel
theorem dL_law_1774 : decode cL_law 1774 = .ok (.iaload, 1) := by decide +kernel
theorem dL_law_1775 : decode cL_law 1775 = .ok (.invokevirtual 201, 3) := by decide +kernel
theorem dL_law_1778 : decode cL_law 1778 = .ok (.istore 7, 2) := by decide +kernel
theorem dL_law_1780 : decode cL_law 1780 = .ok (.aload_n 2, 1) := by decide +kernel
theorem dL_law_1781 : decode cL_law 1781 = .ok (.invokevirtual 114, 3) := by decide +kernel
theorem dL_law_1784 : decode cL_law 1784 = .ok (.iload 6, 2) := by decide +kernel
theorem dL_law_1786 : decode cL_law 1786 = .ok (.if_icmp .eq 5, 3) := by decide +kernel
theorem dL_law_1789 : decode cL_law 1789 = .ok (.iconst 0, 1) := by decide +kernel
theorem dL_law_1790 : decode cL_law 1790 = .ok (.ireturn, 1) := by decide +kernel
theorem dL_law_1791 : decode cL_law 1791 = .ok (.iload 6, 2) := by decide +kernel
theorem dL_law_1793 : decode cL_law 1793 = .ok (.ifCond .ne 15, 3) := by decide +kernel
theorem dL_law_1796 : decode cL_law 1796 = .ok (.aload_n 3, 1) := by decide +kernel
theorem dL_law_1797 : decode cL_law 1797 = .ok (.iconst 0, 1) := by decide +kernel
theorem dL_law_1798 : decode cL_law 1798 = .ok (.laload, 1) := by decide +kernel
theorem dL_law_1799 : decode cL_law 1799 = .ok (.iload 7, 2) := by decide +kernel
theorem dL_law_1801 : decode cL_law 1801 = .ok (.i2l, 1) := by decide +kernel
theorem dL_law_1802 : decode cL_law 1802 = .ok (.lcmp, 1) := by decide +kernel
theorem dL_law_1803 : decode cL_law 1803 = .ok (.ifCond .eq 5, 3) := by decide +kernel
theorem dL_law_1806 : decode cL_law 1806 = .ok (.iconst 0, 1) := by decide +kernel
theorem dL_law_1807 : decode cL_law 1807 = .ok (.ireturn, 1) := by decide +kernel
theorem dL_law_1808 : decode cL_law 1808 = .ok (.goto 127, 3) := by decide +kernel
theorem dL_law_1811 : decode cL_law 1811 = .ok (.aload_n 1, 1) := by decide +kernel
theorem dL_law_1812 : decode cL_law 1812 = .ok (.aload_n 3, 1) := by decide +kernel
theorem dL_law_1813 : decode cL_law 1813 = .ok (.invokestatic 202, 3) := by decide +kernel
theorem dL_law_1816 : decode cL_law 1816 = .ok (.istore 6, 2) := by decide +kernel
theorem dL_law_1818 : decode cL_law 1818 = .ok (.aload_n 2, 1) := by decide +kernel
theorem dL_law_1819 : decode cL_law 1819 = .ok (.invokevirtual 204, 3) := by decide +kernel
theorem dL_law_1822 : decode cL_law 1822 = .ok (.istore 7, 2) := by decide +kernel
theorem dL_law_1824 : decode cL_law 1824 = .ok (.aload_n 2, 1) := by decide +kernel
theorem dL_law_1825 : decode cL_law 1825 = .ok (.invokevirtual 114, 3) := by decide +kernel
theorem dL_law_1828 : decode cL_law 1828 = .ok (.iload 6, 2) := by decide +kernel
theorem dL_law_1830 : decode cL_law 1830 = .ok (.if_icmp .eq 5, 3) := by decide +kernel
theorem dL_law_1833 : decode cL_law 1833 = .ok (.iconst 0, 1) := by decide +kernel
theorem dL_law_1834 : decode cL_law 1834 = .ok (.ireturn, 1) := by decide +kernel
theorem dL_law_1835 : decode cL_law 1835 = .ok (.iload 6, 2) := by decide +kernel
theorem dL_law_1837 : decode cL_law 1837 = .ok (.ifCond .ne 15, 3) := by decide +kernel
theorem dL_law_1840 : decode cL_law 1840 = .ok (.aload_n 3, 1) := by decide +kernel
theorem dL_law_1841 : decode cL_law 1841 = .ok (.iconst 0, 1) := by decide +kernel
theorem dL_law_1842 : decode cL_law 1842 = .ok (.laload, 1) := by decide +kernel
theorem dL_law_1843 : decode cL_law 1843 = .ok (.iload 7, 2) := by decide +kernel
theorem dL_law_1845 : decode cL_law 1845 = .ok (.i2l, 1) := by decide +kernel
theorem dL_law_1846 : decode cL_law 1846 = .ok (.lcmp, 1) := by decide +kernel
theorem dL_law_1847 : decode cL_law 1847 = .ok (.ifCond .eq 5, 3) := by decide +kernel
theorem dL_law_1850 : decode cL_law 1850 = .ok (.iconst 0, 1) := by decide +kernel
theorem dL_law_1851 : decode cL_law 1851 = .ok (.ireturn, 1) := by decide +kernel
theorem dL_law_1852 : decode cL_law 1852 = .ok (.goto 83, 3) := by decide +kernel
theorem dL_law_1855 : decode cL_law 1855 = .ok (.aload_n 1, 1) := by decide +kernel
theorem dL_law_1856 : decode cL_law 1856 = .ok (.invokevirtual 205, 3) := by decide +kernel
theorem dL_law_1859 : decode cL_law 1859 = .ok (.aload_n 2, 1) := by decide +kernel
theorem dL_law_1860 : decode cL_law 1860 = .ok (.invokevirtual 209, 3) := by decide +kernel
theorem dL_law_1863 : decode cL_law 1863 = .ok (.lcmp, 1) := by decide +kernel
theorem dL_law_1864 : decode cL_law 1864 = .ok (.ifCond .eq 71, 3) := by decide +kernel
theorem dL_law_1867 : decode cL_law 1867 = .ok (.iconst 0, 1) := by decide +kernel
theorem dL_law_1868 : decode cL_law 1868 = .ok (.ireturn, 1) := by decide +kernel
theorem dL_law_1869 : decode cL_law 1869 = .ok (.aload_n 1, 1) := by decide +kernel
theorem dL_law_1870 : decode cL_law 1870 = .ok (.aload 4, 2) := by decide +kernel
theorem dL_law_1872 : decode cL_law 1872 = .ok (.invokestatic 210, 3) := by decide +kernel
theorem dL_law_1875 : decode cL_law 1875 = .ok (.istore 6, 2) := by decide +kernel
theorem dL_law_1877 : decode cL_law 1877 = .ok (.aload_n 2, 1) := by decide +kernel
theorem dL_law_1878 : decode cL_law 1878 = .ok (.invokevirtual 213, 3) := by decide +kernel
theorem dL_law_1881 : decode cL_law 1881 = .ok (.fstore 7, 2) := by decide +kernel
theorem dL_law_1883 : decode cL_law 1883 = .ok (.aload_n 2, 1) := by decide +kernel
theorem dL_law_1884 : decode cL_law 1884 = .ok (.invokevirtual 114, 3) := by decide +kernel
theorem dL_law_1887 : decode cL_law 1887 = .ok (.iload 6, 2) := by decide +kernel
theorem dL_law_1889 : decode cL_law 1889 = .ok (.if_icmp .eq 5, 3) := by decide +kernel
theorem dL_law_1892 : decode cL_law 1892 = .ok (.iconst 0, 1) := by decide +kernel
theorem dL_law_1893 : decode cL_law 1893 = .ok (.ireturn, 1) := by decide +kernel
theorem dL_law_1894 : decode cL_law 1894 = .ok (.iload 6, 2) := by decide +kernel
theorem dL_law_1896 : decode cL_law 1896 = .ok (.ifCond .ne 36, 3) := by decide +kernel
theorem dL_law_1899 : decode cL_law 1899 = .ok (.aload 4, 2) := by decide +kernel
theorem dL_law_1901 : decode cL_law 1901 = .ok (.iconst 0, 1) := by decide +kernel
theorem dL_law_1902 : decode cL_law 1902 = .ok (.daload, 1) := by decide +kernel
theorem dL_law_1903 : decode cL_law 1903 = .ok (.fload 7, 2) := by decide +kernel
theorem dL_law_1905 : decode cL_law 1905 = .ok (.f2d, 1) := by decide +kernel
theorem dL_law_1906 : decode cL_law 1906 = .ok (.dcmp .l, 1) := by decide +kernel
theorem dL_law_1907 : decode cL_law 1907 = .ok (.ifCond .eq 25, 3) := by decide +kernel
theorem dL_law_1910 : decode cL_law 1910 = .ok (.aload 4, 2) := by decide +kernel
theorem dL_law_1912 : decode cL_law 1912 = .ok (.iconst 0, 1) := by decide +kernel
theorem dL_law_1913 : decode cL_law 1913 = .ok (.daload, 1) := by decide +kernel
theorem dL_law_1914 : decode cL_law 1914 = .ok (.aload 4, 2) := by decide +kernel
theorem dL_law_1916 : decode cL_law 1916 = .ok (.iconst 0, 1) := by decide +kernel
theorem dL_law_1917 : decode cL_law 1917 = .ok (.daload, 1) := by decide +kernel
theorem dL_law_1918 : decode cL_law 1918 = .ok (.dcmp .l, 1) := by decide +kernel
theorem dL_law_1919 : decode cL_law 1919 = .ok (.ifCond .eq 11, 3) := by decide +kernel
theorem dL_law_1922 : decode cL_law 1922 = .ok (.fload 7, 2) := by decide +kernel
theorem dL_law_1924 : decode cL_law 1924 = .ok (.fload 7, 2) := by decide +kernel
theorem dL_law_1926 : decode cL_law 1926 = .ok (.fcmp .l, 1) := by decide +kernel
theorem dL_law_1927 : decode cL_law 1927 = .ok (.ifCond .ne 5, 3) := by decide +kernel
theorem dL_law_1930 : decode cL_law 1930 = .ok (.iconst 0, 1) := by decide +kernel
theorem dL_law_1931 : decode cL_law 1931 = .ok (.ireturn, 1) := by decide +kernel
theorem dL_law_1932 : decode cL_law 1932 = .ok (.goto 3, 3) := by decide +kernel
theorem dL_law_1935 : decode cL_law 1935 = .ok (.iinc 5 8, 3) := by decide +kernel
theorem dL_law_1938 : decode cL_law 1938 = .ok (.goto (-1910), 3) := by decide +kernel
theorem dL_law_1941 : decode cL_law 1941 = .ok (.iconst 1, 1) := by decide +kernel
theorem dL_law_1942 : decode cL_law 1942 = .ok (.ireturn, 1) := by decide +kernel
end
section
/-! THE WORLD: every object and array of the run has a key (tag, number); what it holds is read off a memory M of ints (tag, number, place) and G of longs (tag) -/
section World
def gw (w : Cond) : Bool := match w with
  | .arrayClass _ => true
  | .fieldLinkNest _ _ _ _ _ _ => true
  | .methodLinkNest _ _ _ _ => true
  | .castable _ _ => true
  | .declares _ => true
  | w => w.onTables && w.keeps
theorem gw_warm {w : Cond} (hg : gw w = true) {a a' : Array Value} {s U : State} (hW : s.WarmedH U.vm) (h : w.before a s = true) : w.before a' U = true := by
  cases w
  case arrayClass ty => exact word_at hW (Or.inr ⟨_, rfl⟩) h
  case fieldLinkNest => exact va_Nw.use rfl (va_Nw.warmF hW (va_Nw.of rfl h))
  case methodLinkNest => exact va_Nw.use rfl (va_Nw.warmM hW (va_Nw.of rfl h))
  case castable => exact va_Nw.use rfl (va_Nw.warmC hW (va_Nw.of rfl h))
  case declares => exact va_Nw.use rfl (va_Nw.warmD hW (va_Nw.of rfl h))
  all_goals exact word_at hW (Or.inl hg) h
/-- the tables' words that stay -/
def GW (U : State) : Prop := ∀ w ∈ lw_tbl, gw w = true → w.before #[] U = true
theorem GW.at {s : State} (h : GW s) {a : Array Value} {w : Cond} (hm : w ∈ lw_tbl) (hg : gw w = true) : w.before a s = true := gw_warm hg (State.WarmedH.refl s) (h w hm hg)
theorem GW.warm {s U : State} (h : GW s) (hW : s.WarmedH U.vm) : GW U := fun w hm hg => gw_warm hg hW (h w hm hg)
/-- a world: addresses of the keys, the keys that stand, the classes' numbers, the array classes -/
abbrev Wo : Type := (Nat × Nat → Nat) × List (Nat × Nat) × va_G × (Nat → ClassId)
def tyl (cA : Nat → ClassId) : List (ClassId × FieldType) := [(cA 0, .int), (cA 1, .boolean), (cA 2, .char), (cA 3, .long), (cA 4, .double), (cA 5, .object "Entitled$Entitlement"), (cA 6, .object "Entitled$Install")]
def WL (w : Wo) (E : Nat × Nat → va_E) : va_W := w.2.1.map (fun k => (w.1 k, E k))
def eset (E : Nat × Nat → va_E) (k : Nat × Nat) (v : va_E) : Nat × Nat → va_E := fun k' => if k' = k then v else E k'
theorem WL_get {w : Wo} {E : Nat × Nat → va_E} {q : Nat} {k : Nat × Nat} (h : w.2.1[q]? = some k) : (WL w E)[q]? = some (w.1 k, E k) := by simp [WL, h]
theorem WL_in {w : Wo} {k : Nat × Nat} (h : k ∈ w.2.1) : ∃ q : Nat, w.2.1[q]? = some k := List.getElem?_of_mem h
/-- different places, different addresses -/
def WI (w : Wo) : Prop := ∀ (i j : Nat) (k k' : Nat × Nat), w.2.1[i]? = some k → w.2.1[j]? = some k' → w.1 k = w.1 k' → i = j
theorem WL_set {w : Wo} (hI : WI w) {E : Nat × Nat → va_E} {q : Nat} {k : Nat × Nat} (h : w.2.1[q]? = some k) (v : va_E) : (WL w E).set q (w.1 k, v) = WL w (eset E k v) := by
  apply List.ext_getElem?
  intro n
  by_cases hn : q = n
  · subst hn
    have hl : q < (WL w E).length := by rw [WL, List.length_map]; exact (List.getElem?_eq_some_iff.mp h).1
    rw [List.getElem?_set_self hl]
    simp [WL, h, eset]
  · rw [List.getElem?_set_ne hn]
    simp only [WL, List.getElem?_map]
    cases h2 : w.2.1[n]? with
    | none => rfl
    | some k2 =>
      have hk : k2 ≠ k := fun e => hn (hI q n k k2 h h2 (by rw [e]))
      simp [eset, hk]
def AW (w : Wo) (q : Nat) : Prop := ∃ k, k ∈ w.2.1 ∧ w.1 k = q
def AA (w : Wo) (sz : Nat) (q : Nat) : Prop := AW w q ∨ sz ≤ q
theorem WD {w : Wo} (hI : WI w) (sz : Nat) (E : Nat × Nat → va_E) : va_D (AA w sz) (WL w E) := by
  refine ⟨fun i j p q hp hq e => ?_, fun k q hq => ?_⟩
  · simp only [WL, List.getElem?_map, Option.map_eq_some_iff] at hp hq
    obtain ⟨k1, h1, rfl⟩ := hp
    obtain ⟨k2, h2, rfl⟩ := hq
    exact hI i j k1 k2 h1 h2 e
  · simp only [WL, List.getElem?_map, Option.map_eq_some_iff] at hq
    obtain ⟨k1, h1, rfl⟩ := hq
    exact Or.inl ⟨k1, List.mem_of_getElem? h1, rfl⟩
/-- the texts of the exceptions, and the classes that aren't one another's -/
def SW : List (Nat × String) := [(104, "an entitlement's value is out of range"), (109, "no more entitlements can be added"), (131, "the minimum is out of range"), (139, "the entitlement is not counted by cores"), (145, "the price is out of range"), (150, "the number of units is out of range"), (155, "the entitlement would have too many units"), (171, "no entitlement fits the install"), (187, "too many installs to try all assignments"), (204, "the install is not covered"), (234, "no install is there"), (241, "no such install is there"), (244, "no such entitlement"), (246, "no entitlement fits some install"), (50, "an install's value is out of range"), (64, "no more installs can be made now"), (79, "the device or the user is out of range"), (87, "the version or the edition is out of range"), (95, "the pool is out of range")]
def xIAE : String := "java/lang/IllegalArgumentException"
def xISE : String := "java/lang/IllegalStateException"
def xIOB : String := "java/lang/IndexOutOfBoundsException"
def xUOE : String := "java/lang/UnsupportedOperationException"
def xNSE : String := "java/util/NoSuchElementException"
def NCs : List (String × String) := [(xIAE, xISE), (xIAE, xIOB), (xIAE, xUOE), (xIAE, xNSE), (xISE, xIAE), (xISE, xIOB), (xISE, xUOE), (xISE, xNSE), (xIOB, xIAE), (xIOB, xISE), (xIOB, xUOE), (xIOB, xNSE), (xUOE, xIAE), (xUOE, xISE), (xUOE, xIOB), (xUOE, xNSE), (xNSE, xIAE), (xNSE, xISE), (xNSE, xIOB), (xNSE, xUOE)]
/-- what the tables say -/
def KW (w : Wo) (U : State) : Prop := GW U ∧ va_K w.2.2.1 vwCl (tyl w.2.2.2) U ∧ (∀ q ∈ SW, ∃ sa, vk_R "Entitled" q.1 q.2 sa U) ∧ ∀ q ∈ NCs, va_Nc q.1 q.2 U
theorem KW.warm {w : Wo} {s U : State} (h : KW w s) (hW : s.WarmedH U.vm) : KW w U :=
  ⟨h.1.warm hW, va_K.moved hW.alike h.2.1, fun q hq => by obtain ⟨sa, hs⟩ := h.2.2.1 q hq; exact ⟨sa, vk_R.warm hW hs⟩, fun q hq => va_Nc.moved hW.alike (h.2.2.2 q hq)⟩
theorem KW.same {w : Wo} {s U : State} (h : KW w s) (hv : U.vm = s.vm) : KW w U := h.warm (by rw [hv]; exact State.WarmedH.refl s)
/-- the two statics of Throwable, apart from the world -/
def HZ (w : Wo) (U : State) (H : Heap) : Prop := vx_Zq Bundle.tN "UNASSIGNED_STACK" Bundle.steD (AW w) U H ∧ vx_Zq Bundle.tN "SUPPRESSED_SENTINEL" Bundle.listD (AW w) U H
theorem vx_Zq.other {C n d : String} {A B : Nat → Prop} {U : State} {H : Heap} (h : vx_Zq C n d A U H) (hAB : ∀ q, q < H.size → B q → A q) : vx_Zq C n d B U H := by
  have lt : ∀ {a : Nat} {cell : Cell}, H[a]? = some cell → a < H.size := fun h => (Array.getElem?_eq_some_iff.mp h).1
  obtain ⟨h1, c, k, i, f, a, cell, g1, g2, g3, g4, g5, g6, g7, g8, g9, g10⟩ := h
  refine ⟨?_, c, k, i, f, a, cell, g1, g2, g3, g4, g5, g6, g7, g8, g9, fun z => g10 (hAB _ (lt g5) z)⟩
  rcases h1 with ⟨cf, kf, fi, f, a, cell, e1, e2, e3, e4, e5, e6, e7, e8⟩ | ⟨t, cf, kf, fi, f, a, cell, e1, e2, e3, e4, e5, e6, e7, e8⟩
  · exact Or.inl ⟨cf, kf, fi, f, a, cell, e1, e2, e3, e4, e5, e6, e7, fun z => e8 (hAB _ (lt e5) z)⟩
  · exact Or.inr ⟨t, cf, kf, fi, f, a, cell, e1, e2, e3, e4, e5, e6, e7, fun z => e8 (hAB _ (lt e5) z)⟩
theorem HZ.move {w : Wo} {u U : State} {H H1 : Heap} {sz : Nat} (h : HZ w u H) (hvm : u.vm.Alike U.vm) (hsz : H.size ≤ sz) (hq : ∀ a : Nat, a < H.size → ¬ AA w sz a → H1[a]? = H[a]?) : HZ w U H1 := by
  have g : ∀ {C n d : String}, vx_Zq C n d (AW w) u H → vx_Zq C n d (AW w) U H1 := fun {C n d} z => by
    have z1 := vx_Zq.other (B := AA w sz) z (fun q h1 h2 => h2.elim id (fun h3 => absurd h1 (by omega)))
    exact ((z1.moved hvm).kept hq).narrow (fun q h => Or.inl h)
  exact ⟨g h.1, g h.2⟩
theorem HZ.all {w : Wo} {U : State} {H : Heap} {sz : Nat} (h : HZ w U H) (hsz : H.size ≤ sz) : vx_Zq Bundle.tN "UNASSIGNED_STACK" Bundle.steD (AA w sz) U H ∧ vx_Zq Bundle.tN "SUPPRESSED_SENTINEL" Bundle.listD (AA w sz) U H :=
  ⟨h.1.other (fun q h1 h2 => h2.elim id (fun h3 => absurd h1 (by omega))), h.2.other (fun q h1 h2 => h2.elim id (fun h3 => absurd h1 (by omega)))⟩
/-- ints and longs -/
abbrev Mem : Type := Nat → Nat → Nat → Int32
abbrev Lng : Type := Nat × Nat → Int64
def ms (M : Mem) (c i k : Nat) (v : Int32) : Mem := fun c' i' k' => if c' = c ∧ i' = i ∧ k' = k then v else M c' i' k'
def gs (G : Lng) (k : Nat × Nat) (v : Int64) : Lng := fun k' => if k' = k then v else G k'
def bi (b : Bool) : Int32 := if b = true then 1 else 0
/-- the arrays of ints: their class (its place in tyl), their length -/
def aty (c : Nat) : Nat := if c = 17 then 1 else if c = 18 then 1 else if c = 19 then 1 else if c = 20 then 1 else if c = 28 then 2 else 0
def alen (c : Nat) : Nat := if c = 8 then 13 else if c = 9 then 40 else if c = 31 then 4 else if c ≤ 17 then 12 else if c ≤ 28 then 5 else 12
def cnt (c : Nat) : Nat := if c = 0 then 5 else if c = 1 then 12 else if c = 9 then 5 else if c ≤ 31 then 1 else if c = 40 then 1 else if c = 41 then 1 else 0
def ev (w : Wo) (M : Mem) (G : Lng) (k : Nat × Nat) : va_E :=
  if k.1 = 0 then .inr (0, [.int (M 0 k.2 0), .int (M 0 k.2 1), .int (M 0 k.2 2), .int (M 0 k.2 3), .int (M 0 k.2 4), .int (M 0 k.2 5), .int (M 0 k.2 6), .int (M 0 k.2 7), .int (M 0 k.2 8), .int (M 0 k.2 9), .int (M 0 k.2 10), .ref (w.1 (9, k.2)), .int (M 0 k.2 12)])
  else if k.1 = 1 then .inr (1, [.int (M 1 k.2 0), .int (M 1 k.2 1), .int (M 1 k.2 2), .int (M 1 k.2 3), .int (M 1 k.2 4), .int (M 1 k.2 5), .int (M 1 k.2 6), .int (M 1 k.2 7)])
  else if k.1 = 2 then .inr (2, [.ref (w.1 (4, 0)), .ref (w.1 (5, 0)), .int (M 2 k.2 2), .int (M 2 k.2 3), .int (M 2 k.2 4), .long (G k), .ref (w.1 (6, 0)), .ref (w.1 (7, 0)), .ref (w.1 (8, 0)), .int (M 2 k.2 9)])
  else if k.1 = 3 then .inr (3, [.int (M 3 k.2 0), .int (M 3 k.2 1), .int (M 3 k.2 2), .int (M 3 k.2 3), .int (M 3 k.2 4), .long (G k), .ref (w.1 (10, 0)), .ref (w.1 (11, 0)), .ref (w.1 (12, 0)), .ref (w.1 (13, 0)), .ref (w.1 (14, 0)), .ref (w.1 (15, 0)), .ref (w.1 (16, 0)), .ref (w.1 (17, 0)), .ref (w.1 (18, 0)), .ref (w.1 (19, 0)), .ref (w.1 (20, 0)), .ref (w.1 (21, 0)), .ref (w.1 (22, 0)), .ref (w.1 (23, 0)), .ref (w.1 (24, 0)), .ref (w.1 (25, 0)), .ref (w.1 (26, 0)), .ref (w.1 (27, 0)), .ref (w.1 (28, 0)), .ref (w.1 (29, 0)), .ref (w.1 (30, 0)), .ref (w.1 (31, 0))])
  else if k.1 = 4 then .inl (w.2.2.2 6, (12, .inr (.inr (.inr (.inr (fun j => some (w.1 (1, j))))))))
  else if k.1 = 5 then .inl (w.2.2.2 5, (5, .inr (.inr (.inr (.inr (fun j => some (w.1 (0, j))))))))
  else if k.1 = 40 then .inl (w.2.2.2 3, (1, .inr (.inl (fun _ => G k))))
  else if k.1 = 41 then .inl (w.2.2.2 4, (1, .inr (.inr (.inr (.inl (fun _ => (G k).toUInt64))))))
  else .inl (w.2.2.2 (aty k.1), (alen k.1, .inl (M k.1 k.2)))
/-- an outcome: what is thrown, what is answered, the memory behind it -/
abbrev Oc : Type := Option String × Option Value × Mem × Lng
def okO (v : Option Value) (M : Mem) (G : Lng) : Oc := (none, v, M, G)
def thO (X : String) (M : Mem) (G : Lng) : Oc := (some X, none, M, G)
def WH (w : Wo) (E : Nat × Nat → va_E) (H : Heap) : Prop := va_P w.2.2.1 vwCl (WL w E) H
def Wd (w : Wo) (E : Nat × Nat → va_E) (U : State) : Prop := va_P w.2.2.1 vwCl (WL w E) U.heap ∧ KW w U ∧ HZ w U U.heap
def rmv (n mc ms : Nat) : Room := { frames := n, cells := mc, slots := ms, locals := 40 * n }
/-- the contract of a method: at these arguments and this memory it has this outcome -/
def CT (l : Launch) (y : MethodName) (ws : List Cond) (n mc ms : Nat) (w : Wo) (av : List Value) (M : Mem) (G : Lng) (o : Oc) : Prop :=
  ∀ sz, vx_Met l y ws (rmv n mc ms) (va_Pc av (fun U => U.heap.size = sz ∧ Wd w (ev w M G) U))
    (fun _ st oc t => o.1 = none ∧ oc = .returned o.2.1 ∧ WH w (ev w o.2.2.1 o.2.2.2) t.heap ∧ va_F (AA w sz) st t)
    (fun X st t => o.1 = some X ∧ WH w (ev w o.2.2.1 o.2.2.2) t.heap ∧ va_F (AA w sz) st t) mc ms (AA w sz)
end World
end
section
/-! THE JUDGEMENT VE: from the method's frame, with these locals and this stack, over the world E, the machine comes to Q; a row an instruction -/
section RowsV
def LV (ls : Array Slot) (nL : Nat) (lv : List (Option Value)) : Prop := ls.size = nL ∧ lv.length = nL ∧ lv_wf ls ∧ ∀ (i : Nat) (v : Value), lv[i]? = some (some v) → ls[i]? = some (.val v) ∧ v.category = 1
def toL (lv : List (Option Value)) : List (Nat × Value) := (List.range lv.length).filterMap (fun i => (lv[i]?.join).map (fun v => (i, v)))
theorem toL_mem {lv : List (Option Value)} {q : Nat × Value} : q ∈ toL lv ↔ lv[q.1]? = some (some q.2) := by
  constructor
  · intro h
    obtain ⟨i, -, hi⟩ := List.mem_filterMap.mp h
    obtain ⟨v, hv, rfl⟩ := Option.map_eq_some_iff.mp hi
    exact Option.join_eq_some_iff.mp hv
  · intro h
    refine List.mem_filterMap.mpr ⟨q.1, List.mem_range.mpr (List.getElem?_eq_some_iff.mp h).1, ?_⟩
    rw [h]
    rfl
theorem LV.has {ls : Array Slot} {nL : Nat} {lv : List (Option Value)} (h : LV ls nL lv) : lv_has ls nL (toL lv) := ⟨h.1, h.2.2.1, fun q hq => (h.2.2.2 q.1 q.2 (toL_mem.mp hq)).1⟩
theorem LV.at {ls : Array Slot} {nL : Nat} {lv : List (Option Value)} (h : LV ls nL lv) {i : Nat} {v : Value} (hi : lv[i]? = some (some v)) : ls[i]? = some (.val v) := (h.2.2.2 i v hi).1
theorem LV.store {ls ls' : Array Slot} {nL : Nat} {lv : List (Option Value)} (h : LV ls nL lv) {i : Nat} {v : Value} (hi : i < nL) (hc : v.category = 1) (h' : lv_has ls' nL ((i, v) :: (toL lv).filter (fun q => !(q.1 == i) && !(q.1 + 1 == i && q.2.category == 2)))) : LV ls' nL (lv.set i (some v)) := by
  refine ⟨h'.1, by simp [h.2.1], h'.2.1, fun j u hj => ?_⟩
  by_cases e : i = j
  · subst e
    rw [List.getElem?_set_self (by rw [h.2.1]; exact hi)] at hj
    cases hj
    exact ⟨h'.2.2 (i, v) List.mem_cons_self, hc⟩
  · rw [List.getElem?_set_ne e] at hj
    obtain ⟨h1, h2⟩ := h.2.2.2 j u hj
    refine ⟨h'.2.2 (j, u) (List.mem_cons_of_mem _ (List.mem_filter.mpr ⟨toL_mem.mpr hj, ?_⟩)), h2⟩
    simp [h2, Ne.symm e]
theorem lg_sl1 : ∀ vs : List Value, (∀ v ∈ vs, v.category = 1) → lg_sl vs = vs.map Slot.val
  | [], _ => rfl
  | v :: t, h => by
    have h1 := lg_sl1 t (fun u hu => h u (List.mem_cons_of_mem _ hu))
    have h2 := h v List.mem_cons_self
    unfold lg_sl at h1 ⊢
    rw [List.flatMap_cons, h1]
    simp [h2]
theorem lv_args1 : ∀ (vs : List Value) (k : Nat), (∀ v ∈ vs, v.category = 1) → ∀ (i : Nat) (v : Value), vs[i]? = some v → (k + i, v) ∈ lv_args k vs
  | [], _, _, i, v, h => by simp at h
  | u :: t, k, hc, i, v, h => by
    have h2 : ¬ u.category = 2 := by rw [hc u List.mem_cons_self]; decide
    unfold lv_args
    rw [if_neg h2]
    cases i with
    | zero =>
      cases h
      exact List.mem_cons_self
    | succ j =>
      have h3 := lv_args1 t (k + 1) (fun u hu => hc u (List.mem_cons_of_mem _ hu)) j v (by simpa using h)
      rw [show k + (j + 1) = k + 1 + j by omega]
      exact List.mem_cons_of_mem _ h3
theorem LV.entry (vs : List Value) (n : Nat) (hc : ∀ v ∈ vs, v.category = 1) (hn : vs.length ≤ n) : LV ((lg_sl vs ++ List.replicate (n - (lg_sl vs).length) Slot.unset).toArray) n (vs.map some ++ List.replicate (n - vs.length) none) := by
  have hl : (lg_sl vs).length ≤ n := by rw [lg_sl1 vs hc, List.length_map]; exact hn
  have h := lv_entry vs (n := n) hl
  refine ⟨h.1, by simp; omega, h.2.1, fun i v hi => ?_⟩
  by_cases hlt : i < vs.length
  · rw [List.getElem?_append_left (by simpa using hlt)] at hi
    simp only [List.getElem?_map, Option.map_eq_some_iff] at hi
    obtain ⟨u, hu, e⟩ := hi
    cases e
    have h1 := lv_args1 vs 0 hc i v hu
    rw [Nat.zero_add] at h1
    exact ⟨h.2.2 _ h1, hc v (List.mem_of_getElem? hu)⟩
  · rw [List.getElem?_append_right (by simpa using Nat.not_lt.mp hlt)] at hi
    have := List.mem_of_getElem? hi
    simp at this
/-- what stands through a method's walk -/
def Cx (p : Program) (l : Launch) (R : Room) (s : State) (m : MethodId) (args : Array Value) (meth : Method) (c : Code) (cc : ByteArray) (nL : Nat) (own : String) (ret : Option FieldType) (hh : List (Nat × Nat × Nat × Nat)) (w : Wo) : Prop :=
  (p.tables.exec = Jvm.exec ∧ c.code = cc ∧ c.maxLocals = nL ∧ s.vm.findClass own = some m.cls) ∧ (meth.locks = false ∧ meth.sig.returnType = ret ∧ c.exceptionTable.toList = tableOf hh ∧ l.stackTraces = false) ∧ (KW w s ∧ WI w ∧ HZ w s s.heap)
def VE (p : Program) (l : Launch) (e : Env) (R : Room) (s : State) (m : MethodId) (args : Array Value) (below : List Frame) (meth : Method) (c : Code) (cells slots : Nat) (Q : State → Prop) (nL : Nat) (w : Wo) (pc : Nat) (lv : List (Option Value)) (st : List Value) (E : Nat × Nat → va_E) : Prop :=
  ∀ (H : Heap) (locs : List Loc) (ls : Array Slot), va_P w.2.2.1 vwCl (WL w E) H → va_S (AA w s.heap.size) s.heap H locs → LV ls nL lv → W p l e R s m args below meth c H locs cells slots Q (F0 m pc ls st)
/-- an exception of the class X9 is in flight at pc -/
def VX (p : Program) (l : Launch) (e : Env) (R : Room) (s : State) (m : MethodId) (args : Array Value) (below : List Frame) (meth : Method) (c : Code) (cells slots : Nat) (Q : State → Prop) (nL : Nat) (w : Wo) (X9 : String) (pc : Nat) (lv : List (Option Value)) (st : List Value) (E : Nat × Nat → va_E) : Prop :=
  ∀ (H : Heap) (locs : List Loc) (ls : Array Slot) (q : Addr) (ce : Cell), va_P w.2.2.1 vwCl (WL w E) H → va_S (AA w s.heap.size) s.heap H locs → LV ls nL lv → H[q]? = some ce → ce.vm = .none → s.vm.findClass X9 = some ce.cls → vx_W p l e R s m args below meth c H locs cells slots Q (F0 m pc ls st) q
variable {p : Program} {l : Launch} {e : Env} {R : Room} {s : State} {m : MethodId} {args : Array Value} {below : List Frame} {meth : Method} {c : Code} {cells slots : Nat} {Q : State → Prop} {cc : ByteArray} {nL : Nat} {own : String} {ret : Option FieldType} {hh : List (Nat × Nat × Nat × Nat)} {w : Wo} {pc : Nat} {lv : List (Option Value)} {st : List Value} {E : Nat × Nat → va_E}
theorem Cx.x (X : Cx p l R s m args meth c cc nL own ret hh w) : p.tables.exec = Jvm.exec := X.1.1
theorem Cx.b (X : Cx p l R s m args meth c cc nL own ret hh w) : c.code = cc := X.1.2.1
theorem Cx.ml (X : Cx p l R s m args meth c cc nL own ret hh w) : c.maxLocals = nL := X.1.2.2.1
theorem Cx.ow (X : Cx p l R s m args meth c cc nL own ret hh w) : s.vm.findClass own = some m.cls := X.1.2.2.2
theorem Cx.lk (X : Cx p l R s m args meth c cc nL own ret hh w) : meth.locks = false := X.2.1.1
theorem Cx.rt (X : Cx p l R s m args meth c cc nL own ret hh w) : meth.sig.returnType = ret := X.2.1.2.1
theorem Cx.tab (X : Cx p l R s m args meth c cc nL own ret hh w) : c.exceptionTable.toList = tableOf hh := X.2.1.2.2.1
theorem Cx.nst (X : Cx p l R s m args meth c cc nL own ret hh w) : l.stackTraces = false := X.2.1.2.2.2
theorem Cx.kw (X : Cx p l R s m args meth c cc nL own ret hh w) : KW w s := X.2.2.1
theorem Cx.wi (X : Cx p l R s m args meth c cc nL own ret hh w) : WI w := X.2.2.2.1
theorem Cx.hz (X : Cx p l R s m args meth c cc nL own ret hh w) : HZ w s s.heap := X.2.2.2.2
theorem Cx.k (X : Cx p l R s m args meth c cc nL own ret hh w) : va_K w.2.2.1 vwCl (tyl w.2.2.2) s := X.kw.2.1
theorem Cx.wd (X : Cx p l R s m args meth c cc nL own ret hh w) {q : Cond} (hm : q ∈ lw_tbl) (hg : gw q = true) : q.before args s = true := X.kw.1.at hm hg
theorem r_iconst (X : Cx p l R s m args meth c cc nL own ret hh w) {n : Int} {v : Int32} (d : decode cc pc = .ok (.iconst n, 1)) (hv : Int32.ofInt n = v) (k : VE p l e R s m args below meth c cells slots Q nL w (pc + 1) lv (.int v :: st) E) : VE p l e R s m args below meth c cells slots Q nL w (pc) lv (st) E := fun H locs ls hP hS hL => lv_iconst X.x X.b d hv (k H locs ls hP hS hL)
theorem r_bipush (X : Cx p l R s m args meth c cc nL own ret hh w) {n : Int} {v : Int32} (d : decode cc pc = .ok (.bipush n, 2)) (hv : (Int8.ofInt n).toInt32 = v) (k : VE p l e R s m args below meth c cells slots Q nL w (pc + 2) lv (.int v :: st) E) : VE p l e R s m args below meth c cells slots Q nL w (pc) lv (st) E := fun H locs ls hP hS hL => lv_bipush X.x X.b d hv (k H locs ls hP hS hL)
theorem r_sipush (X : Cx p l R s m args meth c cc nL own ret hh w) {n : Int} {v : Int32} (d : decode cc pc = .ok (.sipush n, 3)) (hv : (Int16.ofInt n).toInt32 = v) (k : VE p l e R s m args below meth c cells slots Q nL w (pc + 3) lv (.int v :: st) E) : VE p l e R s m args below meth c cells slots Q nL w (pc) lv (st) E := fun H locs ls hP hS hL => lv_sipush X.x X.b d hv (k H locs ls hP hS hL)
theorem r_fconst0 (X : Cx p l R s m args meth c cc nL own ret hh w)  (d : decode cc pc = .ok (.fconst 0, 1))  (k : VE p l e R s m args below meth c cells slots Q nL w (pc + 1) lv (.float 0 :: st) E) : VE p l e R s m args below meth c cells slots Q nL w (pc) lv (st) E := fun H locs ls hP hS hL => lv_fconst0 X.x X.b d  (k H locs ls hP hS hL)
theorem r_iload_n (X : Cx p l R s m args meth c cc nL own ret hh w) {k : Fin 4} {i : Nat} {x : Int32} (d : decode cc pc = .ok (.iload_n k, 1)) (hi : (k : Nat) = i) (hl : lv[i]? = some (some (.int x))) (k : VE p l e R s m args below meth c cells slots Q nL w (pc + 1) lv (.int x :: st) E) : VE p l e R s m args below meth c cells slots Q nL w (pc) lv (st) E := fun H locs ls hP hS hL => lv_iload_n X.x X.b d hi (hL.at hl) (k H locs ls hP hS hL)
theorem r_istore_n (X : Cx p l R s m args meth c cc nL own ret hh w) {k : Fin 4} {i : Nat} {x : Int32} {lv2 : List (Option Value)} (d : decode cc pc = .ok (.istore_n k, 1)) (hi : (k : Nat) = i) (hn : i < nL) (hl : lv.set i (some (.int x)) = lv2) (k : VE p l e R s m args below meth c cells slots Q nL w (pc + 1) lv2 (st) E) : VE p l e R s m args below meth c cells slots Q nL w (pc) lv (.int x :: st) E := fun H locs ls hP hS hL => lv_istore_n X.x X.b d hi hL.has hn rfl (fun ls2 h2 => k H locs ls2 hP hS (hl ▸ hL.store hn rfl h2))
theorem r_iload (X : Cx p l R s m args meth c cc nL own ret hh w) {i : Nat} {x : Int32} (d : decode cc pc = .ok (.iload i, 2)) (hl : lv[i]? = some (some (.int x))) (k : VE p l e R s m args below meth c cells slots Q nL w (pc + 2) lv (.int x :: st) E) : VE p l e R s m args below meth c cells slots Q nL w (pc) lv (st) E := fun H locs ls hP hS hL => lv_iload X.x X.b d (hL.at hl) (k H locs ls hP hS hL)
theorem r_istore (X : Cx p l R s m args meth c cc nL own ret hh w) {i : Nat} {x : Int32} {lv2 : List (Option Value)} (d : decode cc pc = .ok (.istore i, 2)) (hn : i < nL) (hl : lv.set i (some (.int x)) = lv2) (k : VE p l e R s m args below meth c cells slots Q nL w (pc + 2) lv2 (st) E) : VE p l e R s m args below meth c cells slots Q nL w (pc) lv (.int x :: st) E := fun H locs ls hP hS hL => lv_istore X.x X.b d hL.has hn rfl (fun ls2 h2 => k H locs ls2 hP hS (hl ▸ hL.store hn rfl h2))
theorem r_aload_n (X : Cx p l R s m args meth c cc nL own ret hh w) {k : Fin 4} {i : Nat} {x : Nat} (d : decode cc pc = .ok (.aload_n k, 1)) (hi : (k : Nat) = i) (hl : lv[i]? = some (some (.ref x))) (k : VE p l e R s m args below meth c cells slots Q nL w (pc + 1) lv (.ref x :: st) E) : VE p l e R s m args below meth c cells slots Q nL w (pc) lv (st) E := fun H locs ls hP hS hL => lv_aload_n X.x X.b d hi (hL.at hl) (k H locs ls hP hS hL)
theorem r_astore_n (X : Cx p l R s m args meth c cc nL own ret hh w) {k : Fin 4} {i : Nat} {x : Nat} {lv2 : List (Option Value)} (d : decode cc pc = .ok (.astore_n k, 1)) (hi : (k : Nat) = i) (hn : i < nL) (hl : lv.set i (some (.ref x)) = lv2) (k : VE p l e R s m args below meth c cells slots Q nL w (pc + 1) lv2 (st) E) : VE p l e R s m args below meth c cells slots Q nL w (pc) lv (.ref x :: st) E := fun H locs ls hP hS hL => lv_astore_n X.x X.b d hi hL.has hn rfl (fun ls2 h2 => k H locs ls2 hP hS (hl ▸ hL.store hn rfl h2))
theorem r_aload (X : Cx p l R s m args meth c cc nL own ret hh w) {i : Nat} {x : Nat} (d : decode cc pc = .ok (.aload i, 2)) (hl : lv[i]? = some (some (.ref x))) (k : VE p l e R s m args below meth c cells slots Q nL w (pc + 2) lv (.ref x :: st) E) : VE p l e R s m args below meth c cells slots Q nL w (pc) lv (st) E := fun H locs ls hP hS hL => lv_aload X.x X.b d (hL.at hl) (k H locs ls hP hS hL)
theorem r_astore (X : Cx p l R s m args meth c cc nL own ret hh w) {i : Nat} {x : Nat} {lv2 : List (Option Value)} (d : decode cc pc = .ok (.astore i, 2)) (hn : i < nL) (hl : lv.set i (some (.ref x)) = lv2) (k : VE p l e R s m args below meth c cells slots Q nL w (pc + 2) lv2 (st) E) : VE p l e R s m args below meth c cells slots Q nL w (pc) lv (.ref x :: st) E := fun H locs ls hP hS hL => lv_astore X.x X.b d hL.has hn rfl (fun ls2 h2 => k H locs ls2 hP hS (hl ▸ hL.store hn rfl h2))
theorem r_fload (X : Cx p l R s m args meth c cc nL own ret hh w) {i : Nat} {x : UInt32} (d : decode cc pc = .ok (.fload i, 2)) (hl : lv[i]? = some (some (.float x))) (k : VE p l e R s m args below meth c cells slots Q nL w (pc + 2) lv (.float x :: st) E) : VE p l e R s m args below meth c cells slots Q nL w (pc) lv (st) E := fun H locs ls hP hS hL => lv_fload X.x X.b d (hL.at hl) (k H locs ls hP hS hL)
theorem r_fstore (X : Cx p l R s m args meth c cc nL own ret hh w) {i : Nat} {x : UInt32} {lv2 : List (Option Value)} (d : decode cc pc = .ok (.fstore i, 2)) (hn : i < nL) (hl : lv.set i (some (.float x)) = lv2) (k : VE p l e R s m args below meth c cells slots Q nL w (pc + 2) lv2 (st) E) : VE p l e R s m args below meth c cells slots Q nL w (pc) lv (.float x :: st) E := fun H locs ls hP hS hL => lv_fstore X.x X.b d hL.has hn rfl (fun ls2 h2 => k H locs ls2 hP hS (hl ▸ hL.store hn rfl h2))
theorem toL_at {i : Nat} {v : Value} (h : lv[i]? = some (some v)) : ∃ k : Nat, (toL lv)[k]? = some (i, v) := List.getElem?_of_mem (toL_mem.mpr h)
theorem r_iinc (X : Cx p l R s m args meth c cc nL own ret hh w) {i : Nat} {n : Int} {x v : Int32} {lv2 : List (Option Value)} (d : decode cc pc = .ok (.iinc i n, 3)) (hx : lv[i]? = some (some (.int x))) (hv : x + Int32.ofInt n = v) (hn : i < nL) (hl : lv.set i (some (.int v)) = lv2) (k : VE p l e R s m args below meth c cells slots Q nL w (pc + 3) lv2 (st) E) : VE p l e R s m args below meth c cells slots Q nL w (pc) lv (st) E := fun H locs ls hP hS hL => by
  obtain ⟨j, hj⟩ := toL_at hx
  exact lv_iinc X.x X.b d hL.has hj hv hn rfl (fun ls2 h2 => k H locs ls2 hP hS (hl ▸ hL.store hn rfl h2))
theorem r_iadd (X : Cx p l R s m args meth c cc nL own ret hh w) {x y : Int32} (d : decode cc pc = .ok (.iadd, 1))  (k : VE p l e R s m args below meth c cells slots Q nL w (pc + 1) lv (.int (x + y) :: st) E) : VE p l e R s m args below meth c cells slots Q nL w (pc) lv (.int y :: .int x :: st) E := fun H locs ls hP hS hL => lv_iadd X.x X.b d  (k H locs ls hP hS hL)
theorem r_isub (X : Cx p l R s m args meth c cc nL own ret hh w) {x y : Int32} (d : decode cc pc = .ok (.isub, 1))  (k : VE p l e R s m args below meth c cells slots Q nL w (pc + 1) lv (.int (x - y) :: st) E) : VE p l e R s m args below meth c cells slots Q nL w (pc) lv (.int y :: .int x :: st) E := fun H locs ls hP hS hL => lv_isub X.x X.b d  (k H locs ls hP hS hL)
theorem r_imul (X : Cx p l R s m args meth c cc nL own ret hh w) {x y : Int32} (d : decode cc pc = .ok (.imul, 1))  (k : VE p l e R s m args below meth c cells slots Q nL w (pc + 1) lv (.int (x * y) :: st) E) : VE p l e R s m args below meth c cells slots Q nL w (pc) lv (.int y :: .int x :: st) E := fun H locs ls hP hS hL => lv_imul X.x X.b d  (k H locs ls hP hS hL)
theorem r_iand (X : Cx p l R s m args meth c cc nL own ret hh w) {x y : Int32} (d : decode cc pc = .ok (.iand, 1))  (k : VE p l e R s m args below meth c cells slots Q nL w (pc + 1) lv (.int (x &&& y) :: st) E) : VE p l e R s m args below meth c cells slots Q nL w (pc) lv (.int y :: .int x :: st) E := fun H locs ls hP hS hL => lv_iand X.x X.b d  (k H locs ls hP hS hL)
theorem r_ishl (X : Cx p l R s m args meth c cc nL own ret hh w) {x y : Int32} (d : decode cc pc = .ok (.ishl, 1)) (k : VE p l e R s m args below meth c cells slots Q nL w (pc + 1) lv (.int (x <<< (y &&& 31)) :: st) E) : VE p l e R s m args below meth c cells slots Q nL w (pc) lv (.int y :: .int x :: st) E := fun H locs ls hP hS hL => lv_ishl X.x X.b d (k H locs ls hP hS hL)
theorem r_idiv (X : Cx p l R s m args meth c cc nL own ret hh w) {x y : Int32} (d : decode cc pc = .ok (.idiv, 1)) (hne : ¬ y = 0) (k : VE p l e R s m args below meth c cells slots Q nL w (pc + 1) lv (.int (x / y) :: st) E) : VE p l e R s m args below meth c cells slots Q nL w (pc) lv (.int y :: .int x :: st) E := fun H locs ls hP hS hL => lv_idiv X.x X.b d hne (k H locs ls hP hS hL)
theorem r_irem (X : Cx p l R s m args meth c cc nL own ret hh w) {x y : Int32} (d : decode cc pc = .ok (.irem, 1)) (hne : ¬ y = 0) (k : VE p l e R s m args below meth c cells slots Q nL w (pc + 1) lv (.int (x - x / y * y) :: st) E) : VE p l e R s m args below meth c cells slots Q nL w (pc) lv (.int y :: .int x :: st) E := fun H locs ls hP hS hL => lv_irem X.x X.b d hne (k H locs ls hP hS hL)
theorem r_ladd (X : Cx p l R s m args meth c cc nL own ret hh w) {x y : Int64} (d : decode cc pc = .ok (.ladd, 1))  (k : VE p l e R s m args below meth c cells slots Q nL w (pc + 1) lv (.long (x + y) :: st) E) : VE p l e R s m args below meth c cells slots Q nL w (pc) lv (.long y :: .long x :: st) E := fun H locs ls hP hS hL => lv_ladd X.x X.b d  (k H locs ls hP hS hL)
theorem r_i2l (X : Cx p l R s m args meth c cc nL own ret hh w) {x : Int32} (d : decode cc pc = .ok (.i2l, 1))  (k : VE p l e R s m args below meth c cells slots Q nL w (pc + 1) lv (.long x.toInt64 :: st) E) : VE p l e R s m args below meth c cells slots Q nL w (pc) lv (.int x :: st) E := fun H locs ls hP hS hL => lv_i2l X.x X.b d rfl (k H locs ls hP hS hL)
theorem r_i2c (X : Cx p l R s m args meth c cc nL own ret hh w) {x : Int32} (d : decode cc pc = .ok (.i2c, 1))  (k : VE p l e R s m args below meth c cells slots Q nL w (pc + 1) lv (.int (x.toUInt32 % 65536).toInt32 :: st) E) : VE p l e R s m args below meth c cells slots Q nL w (pc) lv (.int x :: st) E := fun H locs ls hP hS hL => lv_i2c X.x X.b d rfl (k H locs ls hP hS hL)
theorem r_lcmp (X : Cx p l R s m args meth c cc nL own ret hh w) {x y : Int64} (d : decode cc pc = .ok (.lcmp, 1))  (k : VE p l e R s m args below meth c cells slots Q nL w (pc + 1) lv (.int (lg_cmp x y) :: st) E) : VE p l e R s m args below meth c cells slots Q nL w (pc) lv (.long y :: .long x :: st) E := fun H locs ls hP hS hL => W.lcmp X.x X.b d  (k H locs ls hP hS hL)
theorem r_i2f (X : Cx p l R s m args meth c cc nL own ret hh w) {x : Int32} (d : decode cc pc = .ok (.i2f, 1))  (k : VE p l e R s m args below meth c cells slots Q nL w (pc + 1) lv (.float (FP.i2f x) :: st) E) : VE p l e R s m args below meth c cells slots Q nL w (pc) lv (.int x :: st) E := fun H locs ls hP hS hL => lv_i2f X.x X.b d  (k H locs ls hP hS hL)
theorem r_fdiv (X : Cx p l R s m args meth c cc nL own ret hh w) {x y : UInt32} (d : decode cc pc = .ok (.fdiv, 1)) (hne : vf_n32 (FP.fdiv x y)) (k : VE p l e R s m args below meth c cells slots Q nL w (pc + 1) lv (.float (FP.fdiv x y) :: st) E) : VE p l e R s m args below meth c cells slots Q nL w (pc) lv (.float y :: .float x :: st) E := fun H locs ls hP hS hL => lv_fdiv X.x X.b d hne (k H locs ls hP hS hL)
theorem r_f2d (X : Cx p l R s m args meth c cc nL own ret hh w) {x : UInt32} (d : decode cc pc = .ok (.f2d, 1)) (hne : vf_n64 (FP.f2d x)) (k : VE p l e R s m args below meth c cells slots Q nL w (pc + 1) lv (.double (FP.f2d x) :: st) E) : VE p l e R s m args below meth c cells slots Q nL w (pc) lv (.float x :: st) E := fun H locs ls hP hS hL => lv_f2d X.x X.b d hne (k H locs ls hP hS hL)
theorem r_dcmp (X : Cx p l R s m args meth c cc nL own ret hh w) {x y : UInt64} {op : CmpOp} (d : decode cc pc = .ok (.dcmp op, 1))  (k : VE p l e R s m args below meth c cells slots Q nL w (pc + 1) lv (.int (Op.cmpValue (FP.dcmp x y) op) :: st) E) : VE p l e R s m args below meth c cells slots Q nL w (pc) lv (.double y :: .double x :: st) E := fun H locs ls hP hS hL => lv_dcmp X.x X.b d  (k H locs ls hP hS hL)
theorem r_fcmp (X : Cx p l R s m args meth c cc nL own ret hh w) {x y : UInt32} {op : CmpOp} (d : decode cc pc = .ok (.fcmp op, 1))  (k : VE p l e R s m args below meth c cells slots Q nL w (pc + 1) lv (.int (Op.cmpValue (FP.fcmp x y) op) :: st) E) : VE p l e R s m args below meth c cells slots Q nL w (pc) lv (.float y :: .float x :: st) E := fun H locs ls hP hS hL => lv_fcmp X.x X.b d  (k H locs ls hP hS hL)
theorem r_dup (X : Cx p l R s m args meth c cc nL own ret hh w) {va : Value} (d : decode cc pc = .ok (.dup, 1)) (h1 : va.category = 1) (k : VE p l e R s m args below meth c cells slots Q nL w (pc + 1) lv (va :: va :: st) E) : VE p l e R s m args below meth c cells slots Q nL w (pc) lv (va :: st) E := fun H locs ls hP hS hL => lv_dup X.x X.b d h1 (k H locs ls hP hS hL)
theorem r_pop (X : Cx p l R s m args meth c cc nL own ret hh w) {va : Value} (d : decode cc pc = .ok (.pop, 1)) (h1 : va.category = 1) (k : VE p l e R s m args below meth c cells slots Q nL w (pc + 1) lv (st) E) : VE p l e R s m args below meth c cells slots Q nL w (pc) lv (va :: st) E := fun H locs ls hP hS hL => lv_pop X.x X.b d h1 (k H locs ls hP hS hL)
-- shapes of the kit's own rows for dup_x1 and dup2
theorem r_dup_x1 (X : Cx p l R s m args meth c cc nL own ret hh w) {va vb : Value} (d : decode cc pc = .ok (.dup_x1, 1)) (h1 : va.category = 1) (h2 : vb.category = 1) (k : VE p l e R s m args below meth c cells slots Q nL w (pc + 1) lv (va :: vb :: va :: st) E) : VE p l e R s m args below meth c cells slots Q nL w (pc) lv (va :: vb :: st) E := fun H locs ls hP hS hL => lv_dup_x1 X.x X.b d h1 h2 (k H locs ls hP hS hL)
theorem r_dup2 (X : Cx p l R s m args meth c cc nL own ret hh w) {va vb : Value} (d : decode cc pc = .ok (.dup2, 1)) (h1 : va.category = 1) (h2 : vb.category = 1) (k : VE p l e R s m args below meth c cells slots Q nL w (pc + 1) lv (va :: vb :: va :: vb :: st) E) : VE p l e R s m args below meth c cells slots Q nL w (pc) lv (va :: vb :: st) E := fun H locs ls hP hS hL => lv_dup2_11 X.x X.b d h1 h2 (k H locs ls hP hS hL)
theorem r_goto (X : Cx p l R s m args meth c cc nL own ret hh w) {off : Int} {tgt : Nat} (d : decode cc pc = .ok (.goto off, 3)) (ht : (pc : Int) + off = (tgt : Int)) (k : VE p l e R s m args below meth c cells slots Q nL w (tgt) lv (st) E) : VE p l e R s m args below meth c cells slots Q nL w (pc) lv (st) E := fun H locs ls hP hS hL => lv_goto X.x X.b d ht (k H locs ls hP hS hL)
theorem r_if_eq (X : Cx p l R s m args meth c cc nL own ret hh w) {x : Int32} {off : Int} {tgt : Nat} (d : decode cc pc = .ok (.ifCond .eq off, 3)) (ht : (pc : Int) + off = (tgt : Int)) (kt : x = 0 → VE p l e R s m args below meth c cells slots Q nL w (tgt) lv (st) E) (kf : ¬ x = 0 → VE p l e R s m args below meth c cells slots Q nL w (pc + 3) lv (st) E) : VE p l e R s m args below meth c cells slots Q nL w (pc) lv (.int x :: st) E := fun H locs ls hP hS hL => lv_if_eq X.x X.b d ht (fun h => kt h H locs ls hP hS hL) (fun h => kf h H locs ls hP hS hL)
theorem r_if_ne (X : Cx p l R s m args meth c cc nL own ret hh w) {x : Int32} {off : Int} {tgt : Nat} (d : decode cc pc = .ok (.ifCond .ne off, 3)) (ht : (pc : Int) + off = (tgt : Int)) (kt : ¬ x = 0 → VE p l e R s m args below meth c cells slots Q nL w (tgt) lv (st) E) (kf : x = 0 → VE p l e R s m args below meth c cells slots Q nL w (pc + 3) lv (st) E) : VE p l e R s m args below meth c cells slots Q nL w (pc) lv (.int x :: st) E := fun H locs ls hP hS hL => lv_if_ne X.x X.b d ht (fun h => kt h H locs ls hP hS hL) (fun h => kf h H locs ls hP hS hL)
theorem r_if_lt (X : Cx p l R s m args meth c cc nL own ret hh w) {x : Int32} {off : Int} {tgt : Nat} (d : decode cc pc = .ok (.ifCond .lt off, 3)) (ht : (pc : Int) + off = (tgt : Int)) (kt : x < 0 → VE p l e R s m args below meth c cells slots Q nL w (tgt) lv (st) E) (kf : ¬ x < 0 → VE p l e R s m args below meth c cells slots Q nL w (pc + 3) lv (st) E) : VE p l e R s m args below meth c cells slots Q nL w (pc) lv (.int x :: st) E := fun H locs ls hP hS hL => lv_if_lt X.x X.b d ht (fun h => kt h H locs ls hP hS hL) (fun h => kf h H locs ls hP hS hL)
theorem r_if_ge (X : Cx p l R s m args meth c cc nL own ret hh w) {x : Int32} {off : Int} {tgt : Nat} (d : decode cc pc = .ok (.ifCond .ge off, 3)) (ht : (pc : Int) + off = (tgt : Int)) (kt : 0 ≤ x → VE p l e R s m args below meth c cells slots Q nL w (tgt) lv (st) E) (kf : ¬ 0 ≤ x → VE p l e R s m args below meth c cells slots Q nL w (pc + 3) lv (st) E) : VE p l e R s m args below meth c cells slots Q nL w (pc) lv (.int x :: st) E := fun H locs ls hP hS hL => lv_if_ge X.x X.b d ht (fun h => kt h H locs ls hP hS hL) (fun h => kf h H locs ls hP hS hL)
theorem r_if_gt (X : Cx p l R s m args meth c cc nL own ret hh w) {x : Int32} {off : Int} {tgt : Nat} (d : decode cc pc = .ok (.ifCond .gt off, 3)) (ht : (pc : Int) + off = (tgt : Int)) (kt : 0 < x → VE p l e R s m args below meth c cells slots Q nL w (tgt) lv (st) E) (kf : ¬ 0 < x → VE p l e R s m args below meth c cells slots Q nL w (pc + 3) lv (st) E) : VE p l e R s m args below meth c cells slots Q nL w (pc) lv (.int x :: st) E := fun H locs ls hP hS hL => lv_if_gt X.x X.b d ht (fun h => kt h H locs ls hP hS hL) (fun h => kf h H locs ls hP hS hL)
theorem r_if_le (X : Cx p l R s m args meth c cc nL own ret hh w) {x : Int32} {off : Int} {tgt : Nat} (d : decode cc pc = .ok (.ifCond .le off, 3)) (ht : (pc : Int) + off = (tgt : Int)) (kt : x ≤ 0 → VE p l e R s m args below meth c cells slots Q nL w (tgt) lv (st) E) (kf : ¬ x ≤ 0 → VE p l e R s m args below meth c cells slots Q nL w (pc + 3) lv (st) E) : VE p l e R s m args below meth c cells slots Q nL w (pc) lv (.int x :: st) E := fun H locs ls hP hS hL => lv_if_le X.x X.b d ht (fun h => kt h H locs ls hP hS hL) (fun h => kf h H locs ls hP hS hL)
theorem r_icmp_eq (X : Cx p l R s m args meth c cc nL own ret hh w) {x y : Int32} {off : Int} {tgt : Nat} (d : decode cc pc = .ok (.if_icmp .eq off, 3)) (ht : (pc : Int) + off = (tgt : Int)) (kt : x = y → VE p l e R s m args below meth c cells slots Q nL w (tgt) lv (st) E) (kf : ¬ x = y → VE p l e R s m args below meth c cells slots Q nL w (pc + 3) lv (st) E) : VE p l e R s m args below meth c cells slots Q nL w (pc) lv (.int y :: .int x :: st) E := fun H locs ls hP hS hL => lv_icmp_eq X.x X.b d ht (fun h => kt h H locs ls hP hS hL) (fun h => kf h H locs ls hP hS hL)
theorem r_icmp_ne (X : Cx p l R s m args meth c cc nL own ret hh w) {x y : Int32} {off : Int} {tgt : Nat} (d : decode cc pc = .ok (.if_icmp .ne off, 3)) (ht : (pc : Int) + off = (tgt : Int)) (kt : ¬ x = y → VE p l e R s m args below meth c cells slots Q nL w (tgt) lv (st) E) (kf : x = y → VE p l e R s m args below meth c cells slots Q nL w (pc + 3) lv (st) E) : VE p l e R s m args below meth c cells slots Q nL w (pc) lv (.int y :: .int x :: st) E := fun H locs ls hP hS hL => lv_icmp_ne X.x X.b d ht (fun h => kt h H locs ls hP hS hL) (fun h => kf h H locs ls hP hS hL)
theorem r_icmp_lt (X : Cx p l R s m args meth c cc nL own ret hh w) {x y : Int32} {off : Int} {tgt : Nat} (d : decode cc pc = .ok (.if_icmp .lt off, 3)) (ht : (pc : Int) + off = (tgt : Int)) (kt : x < y → VE p l e R s m args below meth c cells slots Q nL w (tgt) lv (st) E) (kf : ¬ x < y → VE p l e R s m args below meth c cells slots Q nL w (pc + 3) lv (st) E) : VE p l e R s m args below meth c cells slots Q nL w (pc) lv (.int y :: .int x :: st) E := fun H locs ls hP hS hL => lv_icmp_lt X.x X.b d ht (fun h => kt h H locs ls hP hS hL) (fun h => kf h H locs ls hP hS hL)
theorem r_icmp_ge (X : Cx p l R s m args meth c cc nL own ret hh w) {x y : Int32} {off : Int} {tgt : Nat} (d : decode cc pc = .ok (.if_icmp .ge off, 3)) (ht : (pc : Int) + off = (tgt : Int)) (kt : y ≤ x → VE p l e R s m args below meth c cells slots Q nL w (tgt) lv (st) E) (kf : ¬ y ≤ x → VE p l e R s m args below meth c cells slots Q nL w (pc + 3) lv (st) E) : VE p l e R s m args below meth c cells slots Q nL w (pc) lv (.int y :: .int x :: st) E := fun H locs ls hP hS hL => lv_icmp_ge X.x X.b d ht (fun h => kt h H locs ls hP hS hL) (fun h => kf h H locs ls hP hS hL)
theorem r_icmp_gt (X : Cx p l R s m args meth c cc nL own ret hh w) {x y : Int32} {off : Int} {tgt : Nat} (d : decode cc pc = .ok (.if_icmp .gt off, 3)) (ht : (pc : Int) + off = (tgt : Int)) (kt : y < x → VE p l e R s m args below meth c cells slots Q nL w (tgt) lv (st) E) (kf : ¬ y < x → VE p l e R s m args below meth c cells slots Q nL w (pc + 3) lv (st) E) : VE p l e R s m args below meth c cells slots Q nL w (pc) lv (.int y :: .int x :: st) E := fun H locs ls hP hS hL => lv_icmp_gt X.x X.b d ht (fun h => kt h H locs ls hP hS hL) (fun h => kf h H locs ls hP hS hL)
theorem r_icmp_le (X : Cx p l R s m args meth c cc nL own ret hh w) {x y : Int32} {off : Int} {tgt : Nat} (d : decode cc pc = .ok (.if_icmp .le off, 3)) (ht : (pc : Int) + off = (tgt : Int)) (kt : x ≤ y → VE p l e R s m args below meth c cells slots Q nL w (tgt) lv (st) E) (kf : ¬ x ≤ y → VE p l e R s m args below meth c cells slots Q nL w (pc + 3) lv (st) E) : VE p l e R s m args below meth c cells slots Q nL w (pc) lv (.int y :: .int x :: st) E := fun H locs ls hP hS hL => lv_icmp_le X.x X.b d ht (fun h => kt h H locs ls hP hS hL) (fun h => kf h H locs ls hP hS hL)
theorem r_icmpn_eq (X : Cx p l R s m args meth c cc nL own ret hh w) {a b : Nat} {off : Int} {tgt : Nat} (d : decode cc pc = .ok (.if_icmp .eq off, 3)) (ht : (pc : Int) + off = (tgt : Int)) (ha : a < 2 ^ 31) (hb : b < 2 ^ 31) (kt : a = b → VE p l e R s m args below meth c cells slots Q nL w (tgt) lv (st) E) (kf : a ≠ b → VE p l e R s m args below meth c cells slots Q nL w (pc + 3) lv (st) E) : VE p l e R s m args below meth c cells slots Q nL w (pc) lv (.int (nI b) :: .int (nI a) :: st) E := r_icmp_eq X d ht (fun h => kt ((nI_eq ha hb).mp h)) (fun h => kf (fun z => h ((nI_eq ha hb).mpr z)))
theorem r_icmpn_ne (X : Cx p l R s m args meth c cc nL own ret hh w) {a b : Nat} {off : Int} {tgt : Nat} (d : decode cc pc = .ok (.if_icmp .ne off, 3)) (ht : (pc : Int) + off = (tgt : Int)) (ha : a < 2 ^ 31) (hb : b < 2 ^ 31) (kt : a ≠ b → VE p l e R s m args below meth c cells slots Q nL w (tgt) lv (st) E) (kf : a = b → VE p l e R s m args below meth c cells slots Q nL w (pc + 3) lv (st) E) : VE p l e R s m args below meth c cells slots Q nL w (pc) lv (.int (nI b) :: .int (nI a) :: st) E := r_icmp_ne X d ht (fun h => kt (fun z => h ((nI_eq ha hb).mpr z))) (fun h => kf ((nI_eq ha hb).mp h))
theorem r_icmpn_lt (X : Cx p l R s m args meth c cc nL own ret hh w) {a b : Nat} {off : Int} {tgt : Nat} (d : decode cc pc = .ok (.if_icmp .lt off, 3)) (ht : (pc : Int) + off = (tgt : Int)) (ha : a < 2 ^ 31) (hb : b < 2 ^ 31) (kt : a < b → VE p l e R s m args below meth c cells slots Q nL w (tgt) lv (st) E) (kf : b ≤ a → VE p l e R s m args below meth c cells slots Q nL w (pc + 3) lv (st) E) : VE p l e R s m args below meth c cells slots Q nL w (pc) lv (.int (nI b) :: .int (nI a) :: st) E := r_icmp_lt X d ht (fun h => kt ((nI_ltI ha hb).mp h)) (fun h => kf (Nat.not_lt.mp (fun z => h ((nI_ltI ha hb).mpr z))))
theorem r_icmpn_ge (X : Cx p l R s m args meth c cc nL own ret hh w) {a b : Nat} {off : Int} {tgt : Nat} (d : decode cc pc = .ok (.if_icmp .ge off, 3)) (ht : (pc : Int) + off = (tgt : Int)) (ha : a < 2 ^ 31) (hb : b < 2 ^ 31) (kt : b ≤ a → VE p l e R s m args below meth c cells slots Q nL w (tgt) lv (st) E) (kf : a < b → VE p l e R s m args below meth c cells slots Q nL w (pc + 3) lv (st) E) : VE p l e R s m args below meth c cells slots Q nL w (pc) lv (.int (nI b) :: .int (nI a) :: st) E := r_icmp_ge X d ht (fun h => kt ((nI_leI hb ha).mp h)) (fun h => kf (Nat.not_le.mp (fun z => h ((nI_leI hb ha).mpr z))))
theorem r_icmpn_gt (X : Cx p l R s m args meth c cc nL own ret hh w) {a b : Nat} {off : Int} {tgt : Nat} (d : decode cc pc = .ok (.if_icmp .gt off, 3)) (ht : (pc : Int) + off = (tgt : Int)) (ha : a < 2 ^ 31) (hb : b < 2 ^ 31) (kt : b < a → VE p l e R s m args below meth c cells slots Q nL w (tgt) lv (st) E) (kf : a ≤ b → VE p l e R s m args below meth c cells slots Q nL w (pc + 3) lv (st) E) : VE p l e R s m args below meth c cells slots Q nL w (pc) lv (.int (nI b) :: .int (nI a) :: st) E := r_icmp_gt X d ht (fun h => kt ((nI_ltI hb ha).mp h)) (fun h => kf (Nat.not_lt.mp (fun z => h ((nI_ltI hb ha).mpr z))))
theorem r_icmpn_le (X : Cx p l R s m args meth c cc nL own ret hh w) {a b : Nat} {off : Int} {tgt : Nat} (d : decode cc pc = .ok (.if_icmp .le off, 3)) (ht : (pc : Int) + off = (tgt : Int)) (ha : a < 2 ^ 31) (hb : b < 2 ^ 31) (kt : a ≤ b → VE p l e R s m args below meth c cells slots Q nL w (tgt) lv (st) E) (kf : b < a → VE p l e R s m args below meth c cells slots Q nL w (pc + 3) lv (st) E) : VE p l e R s m args below meth c cells slots Q nL w (pc) lv (.int (nI b) :: .int (nI a) :: st) E := r_icmp_le X d ht (fun h => kt ((nI_leI ha hb).mp h)) (fun h => kf (Nat.not_le.mp (fun z => h ((nI_leI ha hb).mpr z))))
theorem r_ifb_eq (X : Cx p l R s m args meth c cc nL own ret hh w) {b : Bool} {off : Int} {tgt : Nat} (d : decode cc pc = .ok (.ifCond .eq off, 3)) (ht : (pc : Int) + off = (tgt : Int)) (kt : b = false → VE p l e R s m args below meth c cells slots Q nL w (tgt) lv (st) E) (kf : b = true → VE p l e R s m args below meth c cells slots Q nL w (pc + 3) lv (st) E) : VE p l e R s m args below meth c cells slots Q nL w (pc) lv (.int (bi b) :: st) E := r_if_eq X d ht (fun h => kt (by cases b <;> simp_all [bi])) (fun h => kf (by cases b <;> simp_all [bi]))
theorem r_ifb_ne (X : Cx p l R s m args meth c cc nL own ret hh w) {b : Bool} {off : Int} {tgt : Nat} (d : decode cc pc = .ok (.ifCond .ne off, 3)) (ht : (pc : Int) + off = (tgt : Int)) (kt : b = true → VE p l e R s m args below meth c cells slots Q nL w (tgt) lv (st) E) (kf : b = false → VE p l e R s m args below meth c cells slots Q nL w (pc + 3) lv (st) E) : VE p l e R s m args below meth c cells slots Q nL w (pc) lv (.int (bi b) :: st) E := r_if_ne X d ht (fun h => kt (by cases b <;> simp_all [bi])) (fun h => kf (by cases b <;> simp_all [bi]))
theorem r_iincn (X : Cx p l R s m args meth c cc nL own ret hh w) {i a : Nat} {lv2 : List (Option Value)} (d : decode cc pc = .ok (.iinc i 1, 3)) (hx : lv[i]? = some (some (.int (nI a)))) (hn : i < nL) (hl : lv.set i (some (.int (nI (a + 1)))) = lv2) (k : VE p l e R s m args below meth c cells slots Q nL w (pc + 3) lv2 (st) E) : VE p l e R s m args below meth c cells slots Q nL w (pc) lv (st) E := r_iinc X d hx (nI_1 a) hn hl k
theorem r_iinc1 (X : Cx p l R s m args meth c cc nL own ret hh w) {i : Nat} {x : Int32} {lv2 : List (Option Value)} (d : decode cc pc = .ok (.iinc i 1, 3)) (hx : lv[i]? = some (some (.int x))) (hn : i < nL) (hl : lv.set i (some (.int (x + nI 1))) = lv2) (k : VE p l e R s m args below meth c cells slots Q nL w (pc + 3) lv2 (st) E) : VE p l e R s m args below meth c cells slots Q nL w (pc) lv (st) E := r_iinc X d hx rfl hn hl k
theorem r_ldc (X : Cx p l R s m args meth c cc nL own ret hh w) {index : Nat} {v : Int32} (hw : Cond.constant own index v ∈ lw_tbl) (hg : gw (Cond.constant own index v) = true) (d : decode cc pc = .ok (.ldc index, 2)) (k : VE p l e R s m args below meth c cells slots Q nL w (pc + 2) lv (.int v :: st) E) : VE p l e R s m args below meth c cells slots Q nL w (pc) lv (st) E := fun H locs ls hP hS hL => lv_ldc X.x X.b X.ow (X.wd hw hg) d (k H locs ls hP hS hL)
end RowsV
end
section
/-! ROWS OF THE HEAP, OF CALLS, OF ENDS -/
section RowsH
variable {p : Program} {l : Launch} {e : Env} {R : Room} {s : State} {m : MethodId} {args : Array Value} {below : List Frame} {meth : Method} {c : Code} {cells slots : Nat} {Q : State → Prop} {cc : ByteArray} {nL : Nat} {own : String} {ret : Option FieldType} {hh : List (Nat × Nat × Nat × Nat)} {w : Wo} {pc : Nat} {lv : List (Option Value)} {st : List Value} {E : Nat × Nat → va_E}
/-- a class of the claim, by its number in vwCl -/
def KC (ci : Nat) (C : String) (T : u_T) (N : Nat) (ty : Nat → FieldType) : Prop := vwCl[ci]? = some (C, T, N) ∧ (∀ q ∈ u_ws C T N, q ∈ lw_tbl ∧ gw q = true) ∧ (∀ j, j < N → (T j).1 = C) ∧ (∀ k, k < N → parseFieldDescriptor (T k).2.2.1 = some (ty k)) ∧ (∀ a, a < N → ∀ b, b < N → a ≠ b → (T a).2.1 ≠ (T b).2.1)
theorem kc0 : KC 0 RX0 TX0 13 tyX0 := ⟨rfl, by decide +kernel, by decide +kernel, tyX0_ok, nmX0⟩
theorem kc1 : KC 1 RX1 TX1 8 tyX1 := ⟨rfl, by decide +kernel, by decide +kernel, tyX1_ok, nmX1⟩
theorem kc2 : KC 2 RX2 TX2 10 tyX2 := ⟨rfl, by decide +kernel, by decide +kernel, tyX2_ok, nmX2⟩
theorem kc3 : KC 3 RX3 TX3 28 tyX3 := ⟨rfl, by decide +kernel, by decide +kernel, tyX3_ok, nmX3⟩
theorem r_get (X : Cx p l R s m args meth c cc nL own ret hh w) {key : Nat × Nat} {index j ci N : Nat} {C : String} {T : u_T} {ty : Nat → FieldType} {fs : List Value} {v : Value} (kc : KC ci C T N ty) (hk : key ∈ w.2.1) (hE : E key = .inr (ci, fs)) (hj : j < N) (hv : fs[j]? = some v) (hw : Cond.fieldLink own index C (T j).2.1 (T j).2.2.1 ∈ lw_tbl) (d : decode cc pc = .ok (.getfield index, 3)) (k : VE p l e R s m args below meth c cells slots Q nL w (pc + 3) lv (v :: st) E) : VE p l e R s m args below meth c cells slots Q nL w (pc) lv (.ref (w.1 key) :: st) E := fun H locs ls hP hS hL => by
  obtain ⟨q0, hq⟩ := WL_in hk
  exact va_get X.x X.b (Ts := u_ws C T N) (fun q h => X.wd (kc.2.1 q h).1 (kc.2.1 q h).2) (fun q h => h) X.ow X.k hP q0 (by rw [WL_get hq, hE]) kc.1 j hj (X.wd hw rfl) (by rw [kc.2.2.1 j hj]; exact fun x h => h) hv d (k H locs ls hP hS hL)
theorem r_put (X : Cx p l R s m args meth c cc nL own ret hh w) {key : Nat × Nat} {index j ci N : Nat} {C : String} {T : u_T} {ty : Nat → FieldType} {fs : List Value} {v : Value} {E2 : Nat × Nat → va_E} (kc : KC ci C T N ty) (hk : key ∈ w.2.1) (hE : E key = .inr (ci, fs)) (hj : j < N) (hl : j < fs.length) (hw : Cond.fieldLink own index C (T j).2.1 (T j).2.2.1 ∈ lw_tbl) (hfin : (T j).2.2.2 = false) (hn : narrow (ty j) v = v) (hfit : fits (ty j) v = true) (d : decode cc pc = .ok (.putfield index, 3)) (he : eset E key (.inr (ci, fs.set j v)) = E2) (k : VE p l e R s m args below meth c cells slots Q nL w (pc + 3) lv (st) E2) : VE p l e R s m args below meth c cells slots Q nL w (pc) lv (v :: .ref (w.1 key) :: st) E := fun H locs ls hP hS hL => by
  obtain ⟨q0, hq⟩ := WL_in hk
  refine va_put X.x X.b (Ts := u_ws C T N) (fun q h => X.wd (kc.2.1 q h).1 (kc.2.1 q h).2) (fun q h => h) ty kc.2.2.2.1 kc.2.2.2.2 X.ow X.k hP (WD X.wi s.heap.size E) hS q0 (by rw [WL_get hq, hE]) kc.1 j hj (X.wd hw rfl) (by rw [kc.2.2.1 j hj]; exact fun x h => h) hfin (kc.2.2.2.1 j hj) hn hfit hl d (fun H1 locs1 hP1 hD1 hS1 => k H1 locs1 ls ?_ hS1 hL)
  rw [WL_set X.wi hq, he] at hP1
  exact hP1
theorem r_getN (X : Cx p l R s m args meth c cc nL own ret hh w) {key : Nat × Nat} {index j ci N : Nat} {C : String} {T : u_T} {ty : Nat → FieldType} {fs : List Value} {v : Value} {host : String} (kc : KC ci C T N ty) (hk : key ∈ w.2.1) (hE : E key = .inr (ci, fs)) (hj : j < N) (hv : fs[j]? = some v) (hw : Cond.fieldLinkNest own index C (T j).2.1 (T j).2.2.1 host ∈ lw_tbl) (d : decode cc pc = .ok (.getfield index, 3)) (k : VE p l e R s m args below meth c cells slots Q nL w (pc + 3) lv (v :: st) E) : VE p l e R s m args below meth c cells slots Q nL w (pc) lv (.ref (w.1 key) :: st) E := fun H locs ls hP hS hL => by
  obtain ⟨q0, hq⟩ := WL_in hk
  exact va_getN X.x X.b (Ts := u_ws C T N) (fun q h => X.wd (kc.2.1 q h).1 (kc.2.1 q h).2) (fun q h => h) X.ow X.k hP q0 (by rw [WL_get hq, hE]) kc.1 j hj (X.wd hw rfl) (by rw [kc.2.2.1 j hj]; exact fun x h => h) hv d (k H locs ls hP hS hL)
theorem r_putN (X : Cx p l R s m args meth c cc nL own ret hh w) {key : Nat × Nat} {index j ci N : Nat} {C : String} {T : u_T} {ty : Nat → FieldType} {fs : List Value} {v : Value} {host : String} {E2 : Nat × Nat → va_E} (kc : KC ci C T N ty) (hk : key ∈ w.2.1) (hE : E key = .inr (ci, fs)) (hj : j < N) (hl : j < fs.length) (hw : Cond.fieldLinkNest own index C (T j).2.1 (T j).2.2.1 host ∈ lw_tbl) (hfin : (T j).2.2.2 = false) (hn : narrow (ty j) v = v) (hfit : fits (ty j) v = true) (d : decode cc pc = .ok (.putfield index, 3)) (he : eset E key (.inr (ci, fs.set j v)) = E2) (k : VE p l e R s m args below meth c cells slots Q nL w (pc + 3) lv (st) E2) : VE p l e R s m args below meth c cells slots Q nL w (pc) lv (v :: .ref (w.1 key) :: st) E := fun H locs ls hP hS hL => by
  obtain ⟨q0, hq⟩ := WL_in hk
  refine va_putN X.x X.b (Ts := u_ws C T N) (fun q h => X.wd (kc.2.1 q h).1 (kc.2.1 q h).2) (fun q h => h) ty kc.2.2.2.1 kc.2.2.2.2 X.ow X.k hP (WD X.wi s.heap.size E) hS q0 (by rw [WL_get hq, hE]) kc.1 j hj (X.wd hw rfl) (by rw [kc.2.2.1 j hj]; exact fun x h => h) hfin (kc.2.2.2.1 j hj) hn hfit hl d (fun H1 locs1 hP1 hD1 hS1 => k H1 locs1 ls ?_ hS1 hL)
  rw [WL_set X.wi hq, he] at hP1
  exact hP1
theorem r_iald (X : Cx p l R s m args meth c cc nL own ret hh w) {key : Nat × Nat} {n j : Nat} {f : Nat → Int32} {x : Int32} (hk : key ∈ w.2.1) (hE : E key = .inl (w.2.2.2 0, (n, .inl f))) (hx : x = nI j) (hj : j < n) (hn : n < 2 ^ 31) (d : decode cc pc = .ok (.iaload, 1)) (k : VE p l e R s m args below meth c cells slots Q nL w (pc + 1) lv (.int (f j) :: st) E) : VE p l e R s m args below meth c cells slots Q nL w (pc) lv (.int x :: .ref (w.1 key) :: st) E := fun H locs ls hP hS hL => by
  obtain ⟨q0, hq⟩ := WL_in hk
  subst hx
  refine va_iald X.x X.b X.k hP q0 0 (by rw [WL_get hq, hE]) rfl (vp_in_nI hj hn) d ?_
  rw [nI_clamp (Nat.lt_trans hj hn)]
  exact k H locs ls hP hS hL
theorem r_zald (X : Cx p l R s m args meth c cc nL own ret hh w) {key : Nat × Nat} {n j : Nat} {f : Nat → Int32} {x : Int32} (hk : key ∈ w.2.1) (hE : E key = .inl (w.2.2.2 1, (n, .inl f))) (hx : x = nI j) (hj : j < n) (hn : n < 2 ^ 31) (d : decode cc pc = .ok (.baload, 1)) (k : VE p l e R s m args below meth c cells slots Q nL w (pc + 1) lv (.int (f j) :: st) E) : VE p l e R s m args below meth c cells slots Q nL w (pc) lv (.int x :: .ref (w.1 key) :: st) E := fun H locs ls hP hS hL => by
  obtain ⟨q0, hq⟩ := WL_in hk
  subst hx
  refine va_zald X.x X.b X.k hP q0 1 (by rw [WL_get hq, hE]) rfl (vp_in_nI hj hn) d ?_
  rw [nI_clamp (Nat.lt_trans hj hn)]
  exact k H locs ls hP hS hL
theorem r_cald (X : Cx p l R s m args meth c cc nL own ret hh w) {key : Nat × Nat} {n j : Nat} {f : Nat → Int32} {x : Int32} (hk : key ∈ w.2.1) (hE : E key = .inl (w.2.2.2 2, (n, .inl f))) (hx : x = nI j) (hj : j < n) (hn : n < 2 ^ 31) (d : decode cc pc = .ok (.caload, 1)) (k : VE p l e R s m args below meth c cells slots Q nL w (pc + 1) lv (.int (f j) :: st) E) : VE p l e R s m args below meth c cells slots Q nL w (pc) lv (.int x :: .ref (w.1 key) :: st) E := fun H locs ls hP hS hL => by
  obtain ⟨q0, hq⟩ := WL_in hk
  subst hx
  refine va_cald X.x X.b X.k hP q0 2 (by rw [WL_get hq, hE]) rfl (vp_in_nI hj hn) d ?_
  rw [nI_clamp (Nat.lt_trans hj hn)]
  exact k H locs ls hP hS hL
theorem r_iast (X : Cx p l R s m args meth c cc nL own ret hh w) {key : Nat × Nat} {n j : Nat} {f : Nat → Int32} {x v v2 : Int32} {E2 : Nat × Nat → va_E} (hk : key ∈ w.2.1) (hE : E key = .inl (w.2.2.2 0, (n, .inl f))) (hx : x = nI j) (hj : j < n) (hn : n < 2 ^ 31) (hv : v = v2) (d : decode cc pc = .ok (.iastore, 1)) (he : eset E key (.inl (w.2.2.2 0, (n, .inl (upd f j v2)))) = E2) (k : VE p l e R s m args below meth c cells slots Q nL w (pc + 1) lv (st) E2) : VE p l e R s m args below meth c cells slots Q nL w (pc) lv (.int v :: .int x :: .ref (w.1 key) :: st) E := fun H locs ls hP hS hL => by
  obtain ⟨q0, hq⟩ := WL_in hk
  subst hx
  refine va_iast X.x X.b X.k hP (WD X.wi s.heap.size E) hS q0 0 (by rw [WL_get hq, hE]) rfl (vp_in_nI hj hn) d (fun H1 locs1 hP1 hD1 hS1 => k H1 locs1 ls ?_ hS1 hL)
  rw [nI_clamp (Nat.lt_trans hj hn), WL_set X.wi hq, hv, he] at hP1
  exact hP1
theorem r_zast (X : Cx p l R s m args meth c cc nL own ret hh w) {key : Nat × Nat} {n j : Nat} {f : Nat → Int32} {x v v2 : Int32} {E2 : Nat × Nat → va_E} (hk : key ∈ w.2.1) (hE : E key = .inl (w.2.2.2 1, (n, .inl f))) (hx : x = nI j) (hj : j < n) (hn : n < 2 ^ 31) (hv : (vp_nar .boolean v) = v2) (d : decode cc pc = .ok (.bastore, 1)) (he : eset E key (.inl (w.2.2.2 1, (n, .inl (upd f j v2)))) = E2) (k : VE p l e R s m args below meth c cells slots Q nL w (pc + 1) lv (st) E2) : VE p l e R s m args below meth c cells slots Q nL w (pc) lv (.int v :: .int x :: .ref (w.1 key) :: st) E := fun H locs ls hP hS hL => by
  obtain ⟨q0, hq⟩ := WL_in hk
  subst hx
  refine va_zast X.x X.b X.k hP (WD X.wi s.heap.size E) hS q0 1 (by rw [WL_get hq, hE]) rfl (vp_in_nI hj hn) d (fun H1 locs1 hP1 hD1 hS1 => k H1 locs1 ls ?_ hS1 hL)
  rw [nI_clamp (Nat.lt_trans hj hn), WL_set X.wi hq, hv, he] at hP1
  exact hP1
theorem r_cast (X : Cx p l R s m args meth c cc nL own ret hh w) {key : Nat × Nat} {n j : Nat} {f : Nat → Int32} {x v v2 : Int32} {E2 : Nat × Nat → va_E} (hk : key ∈ w.2.1) (hE : E key = .inl (w.2.2.2 2, (n, .inl f))) (hx : x = nI j) (hj : j < n) (hn : n < 2 ^ 31) (hv : (vp_nar .char v) = v2) (d : decode cc pc = .ok (.castore, 1)) (he : eset E key (.inl (w.2.2.2 2, (n, .inl (upd f j v2)))) = E2) (k : VE p l e R s m args below meth c cells slots Q nL w (pc + 1) lv (st) E2) : VE p l e R s m args below meth c cells slots Q nL w (pc) lv (.int v :: .int x :: .ref (w.1 key) :: st) E := fun H locs ls hP hS hL => by
  obtain ⟨q0, hq⟩ := WL_in hk
  subst hx
  refine va_cast X.x X.b X.k hP (WD X.wi s.heap.size E) hS q0 2 (by rw [WL_get hq, hE]) rfl (vp_in_nI hj hn) d (fun H1 locs1 hP1 hD1 hS1 => k H1 locs1 ls ?_ hS1 hL)
  rw [nI_clamp (Nat.lt_trans hj hn), WL_set X.wi hq, hv, he] at hP1
  exact hP1
theorem r_lald (X : Cx p l R s m args meth c cc nL own ret hh w) {key : Nat × Nat} {n j : Nat} {f : Nat → Int64} {x : Int32} (hk : key ∈ w.2.1) (hE : E key = .inl (w.2.2.2 3, (n, .inr (.inl f)))) (hx : x = nI j) (hj : j < n) (hn : n < 2 ^ 31) (d : decode cc pc = .ok (.laload, 1)) (k : VE p l e R s m args below meth c cells slots Q nL w (pc + 1) lv (.long (f j) :: st) E) : VE p l e R s m args below meth c cells slots Q nL w (pc) lv (.int x :: .ref (w.1 key) :: st) E := fun H locs ls hP hS hL => by
  obtain ⟨q0, hq⟩ := WL_in hk
  subst hx
  refine va_lald X.x X.b X.k hP q0 3 (by rw [WL_get hq, hE]) rfl (vp_in_nI hj hn) d ?_
  rw [nI_clamp (Nat.lt_trans hj hn)]
  exact k H locs ls hP hS hL
theorem r_dald (X : Cx p l R s m args meth c cc nL own ret hh w) {key : Nat × Nat} {n j : Nat} {f : Nat → UInt64} {x : Int32} (hk : key ∈ w.2.1) (hE : E key = .inl (w.2.2.2 4, (n, .inr (.inr (.inr (.inl f)))))) (hx : x = nI j) (hj : j < n) (hn : n < 2 ^ 31) (d : decode cc pc = .ok (.daload, 1)) (k : VE p l e R s m args below meth c cells slots Q nL w (pc + 1) lv (.double (f j) :: st) E) : VE p l e R s m args below meth c cells slots Q nL w (pc) lv (.int x :: .ref (w.1 key) :: st) E := fun H locs ls hP hS hL => by
  obtain ⟨q0, hq⟩ := WL_in hk
  subst hx
  refine va_dald X.x X.b X.k hP q0 4 (by rw [WL_get hq, hE]) rfl (vp_in_nI hj hn) d ?_
  rw [nI_clamp (Nat.lt_trans hj hn)]
  exact k H locs ls hP hS hL
theorem r_aald (X : Cx p l R s m args meth c cc nL own ret hh w) {key : Nat × Nat} {n j t0 y : Nat} {C : String} {f : Nat → Option Nat} {x : Int32} (hk : key ∈ w.2.1) (ht : (tyl w.2.2.2)[t0]? = some (w.2.2.2 t0, .object C)) (hE : E key = .inl (w.2.2.2 t0, (n, .inr (.inr (.inr (.inr f)))))) (hx : x = nI j) (hj : j < n) (hn : n < 2 ^ 31) (hy : f j = some y) (d : decode cc pc = .ok (.aaload, 1)) (k : VE p l e R s m args below meth c cells slots Q nL w (pc + 1) lv (.ref y :: st) E) : VE p l e R s m args below meth c cells slots Q nL w (pc) lv (.int x :: .ref (w.1 key) :: st) E := fun H locs ls hP hS hL => by
  obtain ⟨q0, hq⟩ := WL_in hk
  subst hx
  refine va_aldq X.x X.b X.k hP q0 t0 (by rw [WL_get hq, hE]) ht (vp_in_nI hj hn) d ?_
  rw [nI_clamp (Nat.lt_trans hj hn), hy]
  exact k H locs ls hP hS hL
theorem r_alen (X : Cx p l R s m args meth c cc nL own ret hh w) {key : Nat × Nat} {t0 : Nat} {ty : FieldType} {x : vp_A} {v : Int32} (hk : key ∈ w.2.1) (ht : (tyl w.2.2.2)[t0]? = some (w.2.2.2 t0, ty)) (hE : E key = .inl (w.2.2.2 t0, x)) (hv : Int32.ofNat x.1 = v) (d : decode cc pc = .ok (.arraylength, 1)) (k : VE p l e R s m args below meth c cells slots Q nL w (pc + 1) lv (.int v :: st) E) : VE p l e R s m args below meth c cells slots Q nL w (pc) lv (.ref (w.1 key) :: st) E := fun H locs ls hP hS hL => by
  obtain ⟨q0, hq⟩ := WL_in hk
  exact va_alen X.x X.b X.k hP q0 t0 (by rw [WL_get hq, hE]) ht hv d (k H locs ls hP hS hL)
theorem r_max (X : Cx p l R s m args meth c cc nL own ret hh w) {index : Nat} {x y : Int32} (hw : Cond.methodLink own index Lib.Math.max.name ∈ lw_tbl) (hcat : (st.map fun v => v.category).sum + 13 ≤ R.locals) (hf : 1 ≤ R.frames) (hc : cells ≤ R.cells) (hs : slots ≤ R.slots) (d : decode cc pc = .ok (.invokestatic index, 3)) (k : VE p l e R s m args below meth c cells slots Q nL w (pc + 3) lv (.int (if x < y then y else x) :: st) E) : VE p l e R s m args below meth c cells slots Q nL w (pc) lv (.int y :: .int x :: st) E := fun H locs ls hP hS hL =>
  va_mmax X.x X.b (by rw [X.ml, hL.1]) X.ow (X.wd hw rfl) (X.wd (by decide +kernel) rfl) (X.wd (by decide +kernel) rfl) (X.wd (by decide +kernel) rfl) hf hcat hc hs d (k H locs ls hP hS hL)
theorem r_copy (X : Cx p l R s m args meth c cc nL own ret hh w) {key key0 : Nat × Nat} {index n0 n1 : Nat} {f g : Nat → Int32} {sp dp n : Int32} {E2 : Nat × Nat → va_E} (hk0 : key0 ∈ w.2.1) (hk : key ∈ w.2.1) (hE0 : E key0 = .inl (w.2.2.2 0, (n0, .inl f))) (hE : E key = .inl (w.2.2.2 0, (n1, .inl g))) (hw : Cond.methodLink own index arraycopyName ∈ lw_tbl) (h1 : ¬ sp < 0) (h2 : ¬ dp < 0) (h3 : ¬ n < 0) (h4 : sp.toNatClampNeg + n.toNatClampNeg ≤ n0) (h5 : dp.toNatClampNeg + n.toNatClampNeg ≤ n1) (hf : 1 ≤ R.frames) (hcat : (st.map fun v => v.category).sum + (nativeFrameWords "java/lang/System" "arraycopy" 5 + 11) ≤ R.locals) (d : decode cc pc = .ok (.invokestatic index, 3)) (he : eset E key (.inl (w.2.2.2 0, (n1, .inl (va_cpy f g sp.toNatClampNeg dp.toNatClampNeg n.toNatClampNeg)))) = E2) (k : VE p l e R s m args below meth c cells slots Q nL w (pc + 3) lv (st) E2) : VE p l e R s m args below meth c cells slots Q nL w (pc) lv (.int n :: .int dp :: .ref (w.1 key) :: .int sp :: .ref (w.1 key0) :: st) E := fun H locs ls hP hS hL => by
  obtain ⟨q0, hq0⟩ := WL_in hk0
  obtain ⟨q1, hq1⟩ := WL_in hk
  refine va_copyi X.x X.b (by rw [X.ml, hL.1]) X.ow (X.wd hw rfl) (X.wd (by decide +kernel) rfl) (X.wd (by decide +kernel) rfl) (X.wd (by decide +kernel) rfl) X.k hP (WD X.wi s.heap.size E) hS q0 q1 0 0 (by rw [WL_get hq0, hE0]) (by rw [WL_get hq1, hE]) rfl rfl rfl h1 h2 h3 h4 h5 (fun i hi => rfl) hf hcat d (fun H1 locs1 hP1 hD1 hS1 => k H1 locs1 ls ?_ hS1 hL)
  rw [WL_set X.wi hq1, he] at hP1
  exact hP1
-- ===== ends =====
def QV (w : Wo) (o : Oc) (below : List Frame) (args : Array Value) (s : State) (mc ms : Nat) : State → Prop := vx_MQ below (fun _ st oc t => o.1 = none ∧ oc = .returned o.2.1 ∧ WH w (ev w o.2.2.1 o.2.2.2) t.heap ∧ va_F (AA w s.heap.size) st t) (fun X st t => o.1 = some X ∧ WH w (ev w o.2.2.1 o.2.2.2) t.heap ∧ va_F (AA w s.heap.size) st t) args s mc ms (AA w s.heap.size)

theorem r_iret (X : Cx p l R s m args meth c cc nL own (some .int) hh w) {mc ms : Nat} {M : Mem} {G : Lng} {v : Int32} (d : decode cc pc = .ok (.ireturn, 1))  (hc : cells ≤ mc) (hs : slots ≤ ms) {o : Oc} (ho : o = okO (some (.int v)) M G) : VE p l e R s m args below meth c cells slots (QV w o below args s mc ms) nL w pc lv [.int v] (ev w M G) := fun H locs ls hP hS hL => by
  subst ho
  exact W.widen hc hs (vx_ret (W.iret X.x X.b X.rt  (fun t ht hW => ⟨rfl, rfl, (by rw [ht]; exact hP), hS.F ht⟩) hS.2.2 d X.lk))
theorem r_zret (X : Cx p l R s m args meth c cc nL own (some .boolean) hh w) {mc ms : Nat} {M : Mem} {G : Lng} {b : Bool} {v : Int32} (d : decode cc pc = .ok (.ireturn, 1)) (hc : cells ≤ mc) (hs : slots ≤ ms) {o : Oc} (ho : o = okO (some (.int (bi b))) M G) (hv : v = bi b) : VE p l e R s m args below meth c cells slots (QV w o below args s mc ms) nL w pc lv [.int v] (ev w M G) := fun H locs ls hP hS hL => by
  subst ho
  subst hv
  exact W.widen hc hs (vx_ret (W.zret X.x X.b X.rt (by cases b <;> rfl) (fun t ht hW => ⟨rfl, rfl, (by rw [ht]; exact hP), hS.F ht⟩) hS.2.2 d X.lk))
theorem r_cret (X : Cx p l R s m args meth c cc nL own (some .char) hh w) {mc ms : Nat} {M : Mem} {G : Lng} {v : Int32} (d : decode cc pc = .ok (.ireturn, 1)) (hn : narrow .char (.int v) = .int v) (hc : cells ≤ mc) (hs : slots ≤ ms) {o : Oc} (ho : o = okO (some (.int v)) M G) : VE p l e R s m args below meth c cells slots (QV w o below args s mc ms) nL w pc lv [.int v] (ev w M G) := fun H locs ls hP hS hL => by
  subst ho
  exact W.widen hc hs (vx_ret (W.zret X.x X.b X.rt hn (fun t ht hW => ⟨rfl, rfl, (by rw [ht]; exact hP), hS.F ht⟩) hS.2.2 d X.lk))
theorem r_fret (X : Cx p l R s m args meth c cc nL own (some .float) hh w) {mc ms : Nat} {M : Mem} {G : Lng} {v : UInt32} (d : decode cc pc = .ok (.freturn, 1))  (hc : cells ≤ mc) (hs : slots ≤ ms) {o : Oc} (ho : o = okO (some (.float v)) M G) : VE p l e R s m args below meth c cells slots (QV w o below args s mc ms) nL w pc lv [.float v] (ev w M G) := fun H locs ls hP hS hL => by
  subst ho
  exact W.widen hc hs (vx_ret (W.fret X.x X.b X.rt  (fun t ht hW => ⟨rfl, rfl, (by rw [ht]; exact hP), hS.F ht⟩) hS.2.2 d X.lk))
theorem r_lret (X : Cx p l R s m args meth c cc nL own (some .long) hh w) {mc ms : Nat} {M : Mem} {G : Lng} {v : Int64} (d : decode cc pc = .ok (.lreturn, 1))  (hc : cells ≤ mc) (hs : slots ≤ ms) {o : Oc} (ho : o = okO (some (.long v)) M G) : VE p l e R s m args below meth c cells slots (QV w o below args s mc ms) nL w pc lv [.long v] (ev w M G) := fun H locs ls hP hS hL => by
  subst ho
  exact W.widen hc hs (vx_ret (W.lret X.x X.b X.rt  (fun t ht hW => ⟨rfl, rfl, (by rw [ht]; exact hP), hS.F ht⟩) hS.2.2 d X.lk))
theorem r_aret {cn : String} (X : Cx p l R s m args meth c cc nL own (some (.object cn)) hh w) {mc ms : Nat} {M : Mem} {G : Lng} {v : Nat} (d : decode cc pc = .ok (.areturn, 1))  (hc : cells ≤ mc) (hs : slots ≤ ms) {o : Oc} (ho : o = okO (some (.ref v)) M G) : VE p l e R s m args below meth c cells slots (QV w o below args s mc ms) nL w pc lv [.ref v] (ev w M G) := fun H locs ls hP hS hL => by
  subst ho
  exact W.widen hc hs (vx_ret (W.aret X.x X.b X.rt (Or.inl ⟨_, rfl⟩) (Or.inr ⟨_, rfl⟩) (fun t ht hW => ⟨rfl, rfl, (by rw [ht]; exact hP), hS.F ht⟩) hS.2.2 d X.lk))
theorem r_vret (X : Cx p l R s m args meth c cc nL own none hh w) {mc ms : Nat} {M : Mem} {G : Lng}  (d : decode cc pc = .ok (.return_, 1))  (hc : cells ≤ mc) (hs : slots ≤ ms) {o : Oc} (ho : o = okO none M G) : VE p l e R s m args below meth c cells slots (QV w o below args s mc ms) nL w pc lv [] (ev w M G) := fun H locs ls hP hS hL => by
  subst ho
  exact W.widen hc hs (vx_ret (W.vret X.x X.b X.rt  (fun t ht hW => ⟨rfl, rfl, (by rw [ht]; exact hP), hS.F ht⟩) hS.2.2 d X.lk))
theorem r_out (X : Cx p l R s m args meth c cc nL own ret [] w) {mc ms : Nat} {M : Mem} {G : Lng} {X9 : String} (hc : cells ≤ mc) (hs : slots ≤ ms) {o : Oc} (ho : o = thO X9 M G) : VX p l e R s m args below meth c cells slots (QV w o below args s mc ms) nL w X9 pc lv st (ev w M G) := fun H locs ls q ce hP hS hL hq hv hcl => by
  subst ho
  refine vx_out (by rw [X.tab]; intro x hx; cases hx) X.lk hq hv hcl (fun t ht hA => ?_) hS.2.2 hc hs
  exact ⟨rfl, (by rw [ht]; exact hP), hS.F ht⟩
end RowsH
end
section
/-! CALLS, THROWS, CONTRACTS -/
section CallsV
def exN : List String := ["java/lang/RuntimeException", "java/lang/Exception"]
variable {p : Program} {l : Launch} {e : Env} {R : Room} {s : State} {m : MethodId} {args : Array Value} {below : List Frame} {meth : Method} {c : Code} {cells slots : Nat} {Q : State → Prop} {cc : ByteArray} {nL : Nat} {own : String} {ret : Option FieldType} {hh : List (Nat × Nat × Nat × Nat)} {w : Wo} {pc : Nat} {lv : List (Option Value)} {st : List Value} {E : Nat × Nat → va_E}
/-- what is owed behind a call of the outcome o -/
def KO (p : Program) (l : Launch) (e : Env) (R : Room) (s : State) (m : MethodId) (args : Array Value) (below : List Frame) (meth : Method) (c : Code) (cells slots : Nat) (Q : State → Prop) (nL : Nat) (w : Wo) (pc : Nat) (lv : List (Option Value)) (rest : List Value) (o : Oc) (mc2 ms2 : Nat) : Prop := (o.1 = none → VE p l e R s m args below meth c (cells + mc2) (slots + ms2) Q nL w (pc + 3) lv (o.2.1.toList ++ rest) (ev w o.2.2.1 o.2.2.2)) ∧ (∀ X9 : String, o.1 = some X9 → VX p l e R s m args below meth c (cells + mc2) (slots + ms2) Q nL w X9 (pc) lv (rest) (ev w o.2.2.1 o.2.2.2))
theorem ko1 {rest : List Value} {mc2 ms2 : Nat} {M : Mem} {G : Lng} {v : Value} (k : VE p l e R s m args below meth c (cells + mc2) (slots + ms2) Q nL w (pc + 3) lv (v :: rest) (ev w M G)) : KO p l e R s m args below meth c cells slots Q nL w pc lv rest (okO (some v) M G) mc2 ms2 := ⟨fun _ => k, fun _ h => nomatch h⟩
theorem ko0 {rest : List Value} {mc2 ms2 : Nat} {M : Mem} {G : Lng} (k : VE p l e R s m args below meth c (cells + mc2) (slots + ms2) Q nL w (pc + 3) lv (rest) (ev w M G)) : KO p l e R s m args below meth c cells slots Q nL w pc lv rest (okO none M G) mc2 ms2 := ⟨fun _ => k, fun _ h => nomatch h⟩
theorem kox {rest : List Value} {mc2 ms2 : Nat} {M : Mem} {G : Lng} {X9 : String} (k : VX p l e R s m args below meth c (cells + mc2) (slots + ms2) Q nL w X9 (pc) lv (rest) (ev w M G)) : KO p l e R s m args below meth c cells slots Q nL w pc lv rest (thO X9 M G) mc2 ms2 := ⟨fun h => (nomatch h), fun Y h => by cases h; exact k⟩
theorem koi {rest : List Value} {mc2 ms2 : Nat} {cb : Bool} {o1 o2 : Oc} (k1 : cb = true → KO p l e R s m args below meth c cells slots Q nL w pc lv rest o1 mc2 ms2) (k2 : cb = false → KO p l e R s m args below meth c cells slots Q nL w pc lv rest o2 mc2 ms2) : KO p l e R s m args below meth c cells slots Q nL w pc lv rest (if cb = true then o1 else o2) mc2 ms2 := by
  cases cb
  · exact k2 rfl
  · exact k1 rfl
theorem run_VE (X : Cx p l R s m args meth c cc nL own ret hh w) {o : Oc} {mc2 ms2 : Nat} {st0 rest : List Value}
    (hr : ∀ (H : Heap) (locs : List Loc) (ls : Array Slot), va_P w.2.2.1 vwCl (WL w E) H → va_S (AA w s.heap.size) s.heap H locs → LV ls nL lv → vx_Run p l e R s m args below meth c H locs cells slots mc2 ms2 (F0 m pc ls st0) rest (fun st oc t => o.1 = none ∧ oc = .returned o.2.1 ∧ WH w (ev w o.2.2.1 o.2.2.2) t.heap ∧ va_F (AA w H.size) st t) (fun X9 st t => o.1 = some X9 ∧ WH w (ev w o.2.2.1 o.2.2.2) t.heap ∧ va_F (AA w H.size) st t) (AA w H.size))
    (k : KO p l e R s m args below meth c cells slots Q nL w pc lv rest o mc2 ms2) : VE p l e R s m args below meth c cells slots Q nL w (pc) lv (st0) E := fun H locs ls hP hS hL => by
  intro T hT X'
  have hA : ∀ q : Nat, AA w H.size q → AA w s.heap.size q := fun q h => h.elim Or.inl (fun z => Or.inr (Nat.le_trans hS.1 z))
  rcases hr H locs ls hP hS hL T hT X' with ⟨v, st₀, t, T', L, h0, X2, hL2, e1, e2, ⟨g1, g2, g3, g4⟩, hst⟩ | ⟨q, st₀, t, T', L, X9, ce, h0, X2, hL2, e1, e2, ⟨g1, g3, g4⟩, hce, hcv, hcl, hst⟩
  · cases g2
    obtain ⟨k1, k2, k3⟩ := vx_keep h0 e1 hS (fun q _ h => hA q h) hA hL2 g4
    obtain ⟨t2, a1, b1⟩ := k.1 g1 T'.heap (locs ++ L) ls (by rw [e1]; exact g3) k3 hL T' rfl X2
    exact ⟨t2, hst t2 a1, b1⟩
  · obtain ⟨k1, k2, k3⟩ := vx_keep h0 e1 hS (fun q _ h => hA q h) hA hL2 g4
    obtain ⟨t2, a1, b1⟩ := k.2 X9 g1 T'.heap (locs ++ L) ls q ce (by rw [e1]; exact g3) k3 hL (by rw [e1]; exact hce) hcv hcl T' rfl X2
    exact ⟨t2, hst.trans a1, b1⟩
theorem CT_blind {av : List Value} {sz : Nat} : FrameBlind (va_Pc av (fun U => U.heap.size = sz ∧ Wd w E U)) := fun a U g mk h => ⟨h.1, h.2.1, h.2.2.1, h.2.2.2.1.same rfl, h.2.2.2.2.move (Vm.Alike.refl U.vm) (Nat.le_refl _) (fun _ _ _ => rfl)⟩
theorem Cx.pre (X : Cx p l R s m args meth c cc nL own ret hh w) {av : List Value} {H : Heap} {locs : List Loc} (hP : va_P w.2.2.1 vwCl (WL w E) H) (hS : va_S (AA w s.heap.size) s.heap H locs) (U : State) (hU : U.heap = H) (hW : s.WarmedH U.vm) : va_Pc av (fun U => U.heap.size = H.size ∧ Wd w E U) av.toArray U := by
  subst hU
  exact ⟨rfl, rfl, hP, X.kw.warm hW, X.hz.move hW.alike (Nat.le_refl _) (fun a h1 h2 => hS.2.1 a h1 h2)⟩
/-- what the tables say of a method -/
def MWb (y : MethodName) (bytes : ByteArray) (maxL : Nat) (rt : Option FieldType) (n : Nat) : Prop := Cond.code y bytes maxL rt ∈ lw_tbl ∧ Cond.initialized y.cls ∈ lw_tbl ∧ (y.cls ≠ "java/lang/invoke/MethodHandle" ∧ y.cls ≠ "java/lang/invoke/VarHandle") ∧ (parseMethodDescriptor y.desc).map (fun d => d.parameters.length) = some n ∧ maxL ≤ 21 ∧ plainName y.cls = true
/-- .. of an instance method called by a receiver of the class C -/
def MWi (y : MethodName) (C : String) : Prop := Cond.instanceMethod y ∈ lw_tbl ∧ Cond.selects C y y ∈ lw_tbl
theorem MWb.n {y : MethodName} {bytes : ByteArray} {maxL : Nat} {rt : Option FieldType} {n : Nat} (h : MWb y bytes maxL rt n) : ∀ sig, parseMethodDescriptor y.desc = some sig → n = sig.parameters.length := fun sig hs => by
  have h2 := h.2.2.2.1
  rw [hs] at h2
  exact (Option.some.inj h2).symm
section One
variable {y : MethodName} {bytes : ByteArray} {maxL n n2 mc2 ms2 index : Nat} {rt : Option FieldType} {key : Nat × Nat} {ci N : Nat} {C host : String} {T : u_T} {ty : Nat → FieldType} {fs As rest st0 : List Value} {M : Mem} {G : Lng} {o : Oc}
theorem Cx.cb (X : Cx p l R s m args meth c cc nL own ret hh w) (hm : MWb y bytes maxL rt n) (hl : Cond.methodLink own index y ∈ lw_tbl) (hfr : n2 + 1 ≤ R.frames) (hlo : 40 * n2 + 40 ≤ R.locals) : CallB R s args own index y bytes maxL rt [Cond.code y bytes maxL rt] (rmv n2 mc2 ms2) mc2 ms2 n :=
  ⟨rfl, rfl, hfr, by have := hm.2.2.2.2.1; simp only [rmv]; omega, fun w hw a' U hW => by rw [List.mem_singleton.mp hw]; exact word_at hW (Or.inl rfl) (X.wd hm.1 rfl), List.mem_cons_self, X.wd hm.1 rfl, X.wd hm.2.1 rfl, hm.2.2.1, hm.n, X.wd hl rfl⟩
theorem Cx.cn (X : Cx p l R s m args meth c cc nL own ret hh w) (hm : MWb y bytes maxL rt n) (hl : Cond.methodLinkNest own index y host ∈ lw_tbl) (hfr : n2 + 1 ≤ R.frames) (hlo : 40 * n2 + 40 ≤ R.locals) : va_CN R s args own index y host bytes maxL rt [Cond.code y bytes maxL rt] (rmv n2 mc2 ms2) mc2 ms2 n :=
  ⟨⟨rfl, rfl, hfr, by have := hm.2.2.2.2.1; simp only [rmv]; omega, fun w hw a' U hW => by rw [List.mem_singleton.mp hw]; exact word_at hW (Or.inl rfl) (X.wd hm.1 rfl), List.mem_cons_self⟩, X.wd hm.1 rfl, X.wd hm.2.1 rfl, hm.2.2.1, hm.n, X.wd hl rfl⟩
theorem Cx.cf (X : Cx p l R s m args meth c cc nL own ret hh w) : CallFix p m c cc nL s args [] own := ⟨X.x, X.b, X.ml, X.ow, fun w h => absurd h List.not_mem_nil⟩
theorem r_callV (X : Cx p l R s m args meth c cc nL own ret hh w) (hC : CT l y [Cond.code y bytes maxL rt] n2 mc2 ms2 w (.ref (w.1 key) :: As) M G o) (hm : MWb y bytes maxL rt n) (kc : KC ci C T N ty) (hi : MWi y C) (hk : key ∈ w.2.1) (he : ev w M G key = .inr (ci, fs)) (hl : Cond.methodLink own index y ∈ lw_tbl) (hn : As.length = n) (hst : st0 = As.reverse ++ .ref (w.1 key) :: rest) (hcat : (rest.map fun v => v.category).sum ≤ 8) (hfr : n2 + 1 ≤ R.frames) (hlo : 40 * n2 + 40 ≤ R.locals) (hcs : cells + mc2 ≤ R.cells) (hss : slots + ms2 ≤ R.slots) (d : decode cc pc = .ok (.invokevirtual index, 3)) (k : KO p l e R s m args below meth c cells slots Q nL w pc lv rest o mc2 ms2) : VE p l e R s m args below meth c cells slots Q nL w (pc) lv (st0) (ev w M G) := run_VE X (fun H locs ls hP hS hL => by
  obtain ⟨q0, hq⟩ := WL_in hk
  exact vx_runV X.cf (hC H.size) ⟨X.cb hm hl hfr hlo, X.wd hi.1 rfl, X.wd hi.2 rfl⟩ ⟨CT_blind, va_recv X.k hP kc.1 (by rw [WL_get hq, he]), X.pre hP hS⟩ rfl hn hL.1 hst (lv_room hcat) d ⟨hcs, hss⟩) k
theorem r_callVN (X : Cx p l R s m args meth c cc nL own ret hh w) (hC : CT l y [Cond.code y bytes maxL rt] n2 mc2 ms2 w (.ref (w.1 key) :: As) M G o) (hm : MWb y bytes maxL rt n) (kc : KC ci C T N ty) (hi : MWi y C) (hk : key ∈ w.2.1) (he : ev w M G key = .inr (ci, fs)) (hl : Cond.methodLinkNest own index y host ∈ lw_tbl) (hn : As.length = n) (hst : st0 = As.reverse ++ .ref (w.1 key) :: rest) (hcat : (rest.map fun v => v.category).sum ≤ 8) (hfr : n2 + 1 ≤ R.frames) (hlo : 40 * n2 + 40 ≤ R.locals) (hcs : cells + mc2 ≤ R.cells) (hss : slots + ms2 ≤ R.slots) (d : decode cc pc = .ok (.invokevirtual index, 3)) (k : KO p l e R s m args below meth c cells slots Q nL w pc lv rest o mc2 ms2) : VE p l e R s m args below meth c cells slots Q nL w (pc) lv (st0) (ev w M G) := run_VE X (fun H locs ls hP hS hL => by
  obtain ⟨q0, hq⟩ := WL_in hk
  exact vx_runVN X.cf (hC H.size) ⟨X.cn hm hl hfr hlo, X.wd hi.1 rfl, X.wd hi.2 rfl⟩ ⟨CT_blind, va_recv X.k hP kc.1 (by rw [WL_get hq, he]), X.pre hP hS⟩ rfl hn hL.1 hst (lv_room hcat) d ⟨hcs, hss⟩) k
theorem r_callS (X : Cx p l R s m args meth c cc nL own ret hh w) (hC : CT l y [Cond.code y bytes maxL rt] n2 mc2 ms2 w As M G o) (hm : MWb y bytes maxL rt n) (hi : Cond.static y ∈ lw_tbl) (hl : Cond.methodLink own index y ∈ lw_tbl) (hn : As.length = n) (hst : st0 = As.reverse ++ rest) (hcat : (rest.map fun v => v.category).sum ≤ 8) (hfr : n2 + 1 ≤ R.frames) (hlo : 40 * n2 + 40 ≤ R.locals) (hcs : cells + mc2 ≤ R.cells) (hss : slots + ms2 ≤ R.slots) (d : decode cc pc = .ok (.invokestatic index, 3)) (k : KO p l e R s m args below meth c cells slots Q nL w pc lv rest o mc2 ms2) : VE p l e R s m args below meth c cells slots Q nL w (pc) lv (st0) (ev w M G) := run_VE X (fun H locs ls hP hS hL => by
  exact vx_runS X.cf (hC H.size) ⟨X.cb hm hl hfr hlo, X.wd hi rfl⟩ ⟨CT_blind, X.pre hP hS⟩ rfl hn hL.1 hst (lv_room hcat) d ⟨hcs, hss⟩) k
theorem r_callSN (X : Cx p l R s m args meth c cc nL own ret hh w) (hC : CT l y [Cond.code y bytes maxL rt] n2 mc2 ms2 w As M G o) (hm : MWb y bytes maxL rt n) (hi : Cond.static y ∈ lw_tbl) (hl : Cond.methodLinkNest own index y host ∈ lw_tbl) (hn : As.length = n) (hst : st0 = As.reverse ++ rest) (hcat : (rest.map fun v => v.category).sum ≤ 8) (hfr : n2 + 1 ≤ R.frames) (hlo : 40 * n2 + 40 ≤ R.locals) (hcs : cells + mc2 ≤ R.cells) (hss : slots + ms2 ≤ R.slots) (d : decode cc pc = .ok (.invokestatic index, 3)) (k : KO p l e R s m args below meth c cells slots Q nL w pc lv rest o mc2 ms2) : VE p l e R s m args below meth c cells slots Q nL w (pc) lv (st0) (ev w M G) := run_VE X (fun H locs ls hP hS hL => by
  exact vx_runSN X.cf (hC H.size) ⟨X.cn hm hl hfr hlo, X.wd hi rfl, trivial⟩ ⟨CT_blind, X.pre hP hS⟩ rfl hn hL.1 hst (lv_room hcat) d ⟨hcs, hss⟩) k

end One
/-- a contract, by the walk of the body -/
theorem CT_of {y : MethodName} {maxL n nn mc ms : Nat} {rt : Option FieldType} {av : List Value} {M : Mem} {G : Lng} {o : Oc} (hnt : l.stackTraces = false) (hwi : WI w) (hm : MWb y cc maxL rt nn) (hav : ∀ v ∈ av, v.category = 1) (hlen : av.length ≤ maxL)
    (body : ∀ (p : Program) (e : Env) (s : State) (m : MethodId) (args : Array Value) (below : List Frame) (meth : Method) (c : Code), Cx p l (rmv n mc ms) s m args meth c cc maxL y.cls rt [] w → VE p l e (rmv n mc ms) s m args below meth c 0 0 (QV w o below args s mc ms) maxL w 0 (av.map some ++ List.replicate (maxL - av.length) none) [] (ev w M G)) : CT l y [Cond.code y cc maxL rt] n mc ms w av M G o := by
  intro sz
  refine vx_ofW (cc := cc) (maxL := maxL) (ret := rt) hm.2.2.2.2.2 rfl ?_
  intro p e s m args below meth c s₁ B hml hno hv
  obtain ⟨rfl, hsz, hP, hK, hZ⟩ := hv
  subst hsz
  have hl := LV.entry av maxL hav hlen
  rw [lg_entry_eq]
  exact body p e s m _ below meth c ⟨⟨B.exec, B.bytes, hml, findClass_of_methodNamed B.named⟩, ⟨B.notSynchronized, B.returns, List.eq_nil_iff_forall_not_mem.mpr (fun x hx => hno x hx), hnt⟩, hK, hwi, hZ⟩ s.heap [] _ hP va_S.rf hl
theorem r_throwS (X : Cx p l R s m args meth c cc nL "Entitled" ret [] w) {cls text : String} {ik is ic mc ms : Nat} {M : Mem} {G : Lng} (hcls : Bundle.fit cls = true) (hk : Cond.classLink "Entitled" ik cls ∈ lw_tbl) (hini : Cond.initialized cls ∈ lw_tbl) (hsw : (is, text) ∈ SW) (hat : ∀ q ∈ vx_atS "Entitled" ic cls exN, q ∈ lw_tbl ∧ gw q = true ∧ vx_ot q = true)
    (d0 : decode cc pc = .ok (.new ik, 3)) (d3 : decode cc (pc + 3) = .ok (.dup, 1)) (d4 : decode cc (pc + 4) = .ok (.ldc is, 2)) (d6 : decode cc (pc + 6) = .ok (.invokespecial ic, 3)) (d9 : decode cc (pc + 9) = .ok (.athrow, 1))
    (hRf : 5 < R.frames) (hRl : (st.map fun v => v.category).sum + 82 ≤ R.locals) (hRc : cells + 1 ≤ R.cells) (hRs : slots + 6 ≤ R.slots) (hc : cells + 1 ≤ mc) (hs : slots + 6 ≤ ms) {o : Oc} (ho : o = thO cls M G) : VE p l e R s m args below meth c cells slots (QV w o below args s mc ms) nL w pc lv st (ev w M G) := fun H locs ls hP hS hL => by
  subst ho
  obtain ⟨sa, hsa⟩ := X.kw.2.2.1 _ hsw
  obtain ⟨hU, hN⟩ := X.hz.all (Nat.le_refl _)
  refine vx_throwS (names := exN) X.x X.b X.nst X.ow hcls (by decide) (X.wd hk rfl) (X.wd hini rfl) hsa (fun q hq => X.wd (hat q hq).1 (hat q hq).2.1) (fun q hq => ?_) hU hN hS (by rw [hL.1, X.ml]) d0 d3 d4 d6 d9 (by rw [X.tab]; intro x hx; cases hx) hRf hRl hRc hRs X.lk (fun t hA h1 h2 => ⟨rfl, ?_, ?_⟩) hS.2.2 hc hs
  · rcases List.mem_cons.mp hq with rfl | hq
    · rfl
    · rcases List.mem_cons.mp hq with rfl | hq
      · rfl
      · exact (hat q hq).2.2
  · exact va_P.kept hP (fun k q hk => h2 q.1 (va_at.lt (hP k q hk)))
  · exact ⟨Nat.le_trans hS.1 h1, fun q g1 g2 => (h2 q (Nat.lt_of_lt_of_le g1 hS.1)).trans (hS.2.1 q g1 g2)⟩
theorem r_catch (X : Cx p l R s m args meth c cc nL own ret hh w) {X9 nm : String} (pre : List ExceptionTableEntry) (x : ExceptionTableEntry) (suf : List ExceptionTableEntry) (hsplit : tableOf hh = pre ++ x :: suf) (hpass : ∀ z ∈ pre, covers z pc = false ∨ (z.catchType ≠ 0 ∧ ∃ nm : String, Cond.classLink own z.catchType nm ∈ lw_tbl ∧ (X9, nm) ∈ NCs)) (hx : covers x pc = true) (h0 : x.catchType ≠ 0) (hlink : Cond.classLink own x.catchType nm ∈ lw_tbl) (hcast : Cond.castable X9 nm ∈ lw_tbl) (kk : ∀ q : Nat, VE p l e R s m args below meth c cells slots Q nL w (x.handlerPc) lv ([.ref q]) E) : VX p l e R s m args below meth c cells slots Q nL w X9 (pc) lv (st) E := fun H locs ls q ce hP hS hL hq hv hcl =>
  vx_catch X.ow pre x suf (by rw [X.tab, hsplit]) (fun z hz => (hpass z hz).imp id (fun h => ⟨h.1, by obtain ⟨nm2, h1, h2⟩ := h.2; exact ⟨nm2, X.wd h1 rfl, X.kw.2.2.2 _ h2⟩⟩)) hx h0 (X.wd hlink rfl) (X.wd hcast rfl) hq hv hcl (kk q H locs ls hP hS hL)
end CallsV
end
section
/-! an exception of a class whose constructor links its own super constructor at another place than the kit's "six" (java.util.NoSuchElementException of JDK 17: 13): made, then thrown. The texts begin from the kit's pages for pasting (vx_ctorMadeS, vx_makeS, vx_athrow). -/
def nxA (own : String) (ic : Nat) (X Y : String) (ix : Nat) (rx : ByteArray) (r : List String) : List Cond :=
  Bundle.throwableAtoms ++ Bundle.throwableSAtoms ++ (Bundle.passSAtoms X Y ix rx ++ Bundle.chainSAtoms Y r) ++
  [.methodLink own ic (Bundle.initS X), .instantiable X 6, .castable X X, .selects X Bundle.tFill0 Bundle.tFill0, .selects X Bundle.tFill Bundle.tFill,
   .lays X Bundle.tN "cause" "Ljava/lang/Throwable;", .lays X Bundle.tN "stackTrace" Bundle.steD, .lays X Bundle.tN "suppressedExceptions" Bundle.listD, .lays X Bundle.tN "detailMessage" "Ljava/lang/String;",
   .isRef (.static Bundle.tN "UNASSIGNED_STACK" Bundle.steD), .isRef (.static Bundle.tN "SUPPRESSED_SENTINEL" Bundle.listD),
   .fieldLink Bundle.tN 198 Bundle.tN "backtrace" "Ljava/lang/Object;", .lays Bundle.tN Bundle.tN "backtrace" "Ljava/lang/Object;", .lays X Bundle.tN "backtrace" "Ljava/lang/Object;"]
def nxS (own : String) (ic : Nat) (X Y : String) (ix : Nat) (rx : ByteArray) (r : List String) : List Cond := (nxA own ic X Y ix rx r).filter vx_no
theorem nx_chain {args : Array Value} {s : State} {pl : Platform} (hpl : pl.magicAccessors = ({} : Platform).magicAccessors) {top : MethodId} (htop : s.methodNamed? (Bundle.initS Bundle.tN) = some top) {ix : Nat} {rx : ByteArray} (x0 : decode rx 0 = .ok (.aload_n 0, 1)) (x1 : decode rx 1 = .ok (.aload_n 1, 1)) (x2 : decode rx 2 = .ok (.invokespecial ix, 3)) (x5 : decode rx 5 = .ok (.return_, 1)) (X Y : String) (r : List String) (hX : Bundle.fit X = true) (hY : Bundle.fit Y = true) (hn : ∀ n ∈ r, Bundle.fit n = true) (h : ∀ c ∈ Bundle.passSAtoms X Y ix rx ++ Bundle.chainSAtoms Y r, c.before args s = true) :
    ∃ (P1 : PassC) (Ps : List PassC), Ps.length = (Y :: r).length ∧ P1.LinksS pl s ∧ (∀ P, P ∈ Ps → P.LinksS pl s) ∧ s.methodNamed? (Bundle.initS X) = some P1.m ∧ P1.sup = firstOf top (Ps.map (·.toPassT)) ∧ PassesOn top (Ps.map (·.toPassT)) := by
  obtain ⟨P, L, hm, hs⟩ := PassC.ofS_atoms (args := args) (s := s) hpl (X := X) (Y := Y) (Bundle.fit_spec hX).1 (Bundle.fit_spec hY).2 x0 x1 x2 x5 (fun c hc => h c (List.mem_append_left _ hc))
  obtain ⟨P', Ps, hlen, L', hL, hm', hsup, hpass⟩ := Bundle.chainS (args := args) hpl htop r Y hY hn (fun c hc => h c (List.mem_append_right _ hc))
  refine ⟨P, P' :: Ps, by simp [hlen], L, ?_, hm, Option.some.inj (hs.symm.trans hm'), hsup, hpass⟩
  intro Q hQ
  rcases List.mem_cons.mp hQ with rfl | hQ
  · exact L'
  · exact hL Q hQ
section VXK
variable {p : Program} {l : Launch} {e : Env} {R : Room} {s : State} {m₀ : MethodId} {args : Array Value} {below : List Frame} {meth : Method} {c : Code} {W : State} {locs : List Loc} {cells slots : Nat}
set_option maxHeartbeats 2000000 in
theorem nx_ctorMadeS (X : Stand p l e R s m₀ args below meth c W locs cells slots) (hexec : p.tables.exec = Jvm.exec) (htr : e.platform.stackTraces = false) {own cls Y9 : String} {names : List String} {ic : Nat} {ix : Nat} {rx : ByteArray} (x0 : decode rx 0 = .ok (.aload_n 0, 1)) (x1 : decode rx 1 = .ok (.aload_n 1, 1)) (x2 : decode rx 2 = .ok (.invokespecial ix, 3)) (x5 : decode rx 5 = .ok (.return_, 1))
    (hown : s.vm.findClass own = some m₀.cls) (hcls : Bundle.fit cls = true) (hY9 : Bundle.fit Y9 = true) (hnames : ∀ n ∈ names, Bundle.fit n = true)
    (h : ∀ a ∈ nxA own ic cls Y9 ix rx names, a.before args s = true)
    (hlocs : ∀ x ∈ locs, ∀ cell, s.heap[x.base]? = some cell → cell.vm.isStatics = false)
    {a : Addr} {cX : ClassId} {kX : Class} (hfoundX : s.vm.findClass cls = some cX) (hkX : s.vm.classes[cX]? = some kX) (hcell : W.heap[a]? = some (freshCell cX kX)) (hnew : s.heap.size ≤ a)
    {msg : Value} (hmsg : msg.isRef = true)
    {g : JFrame} (hg : g.method = m₀) (hsize : g.locals.size = c.maxLocals) {rest : List Value} (hstack : g.stack = msg :: .ref a :: .ref a :: rest)
    (hd6 : decode c.code g.pc = .ok (.invokespecial ic, 3))
    (hRframes : names.length + 4 < R.frames) (hRlocals : 2 * g.monitorRoom + ((Value.ref a :: rest).map fun v => v.category).sum + (13 * (names.length + 2) + 42) ≤ R.locals) :
    ∃ (V : State) (ce : Cell) (L : List Loc), Stand p l e R s m₀ args below meth c (V.setCell a ce) (locs ++ L) cells slots ∧ (∀ y ∈ L, y.base = a) ∧ a < V.heap.size ∧ ce.cls = cX ∧ ce.vm = .none ∧
      ∀ target, Steps p.tables e below ((V.setCell a ce).setTop { g with stack := .ref a :: rest, pc := g.pc + 3 }) target → Steps p.tables e below (W.setTop g) target := by
  have howns : e.platform.frameOwnsMonitors = true := by rw [X.admits.platform]
  have hfin : e.platform.finalization = false := by rw [X.admits.platform]
  have hpl : e.platform.magicAccessors = ({} : Platform).magicAccessors := by rw [X.admits.platform]
  have a' : ∀ x, x ∈ nxA own ic cls Y9 ix rx names → x.holds args s none s [] = true := fun x hx => h x hx
  obtain ⟨T, Z0, L, -, Y⟩ := ThrowableC.of_atoms (args := args) howns hfin hpl (fun x hx => h x (by simp [nxA, hx]))
  obtain ⟨Z, M, LZ, LM, hnZ⟩ := Init0T.ofS_atoms (args := args) hpl L Y (fun x hx => h x (by simp [nxA, hx]))
  obtain ⟨P1, Ps, hlen, L1, hL, hP1m, hlink1, hlink⟩ := nx_chain (args := args) hpl hnZ x0 x1 x2 x5 cls Y9 names hcls hY9 hnames (fun x hx => h x (List.mem_append_left _ (List.mem_append_right _ hx)))
  have hfound : s.vm.findClass cls = some P1.m.cls := findClass_of_methodNamed hP1m
  cases Option.some.inj (hfoundX.symm.trans hfound)
  obtain ⟨c1, kX', hc1, hk, hord, -, -, hn6⟩ := Cond.instantiable_spec (a' (.instantiable cls 6) (by simp [nxA]))
  cases Option.some.inj (hc1.symm.trans hfound)
  cases Option.some.inj (hkX.symm.trans hk)
  have hsel0 : selectMethod e.platform s.vm P1.m.cls T.fill0 = .method T.fill0 := by
    obtain ⟨c2, r2, m2, q1, q2, q3, q4, -⟩ := Cond.selects_spec (a' (.selects cls Bundle.tFill0 Bundle.tFill0) (by simp [nxA]))
    cases Option.some.inj (q1.symm.trans hfound)
    cases Option.some.inj (q2.symm.trans (State.methodFound?_of_named Y.fill0 (by decide)))
    cases Option.some.inj (q3.symm.trans Y.fill0)
    rw [Launch.admits_selectMethod X.admits]; exact q4
  have hselF : selectMethod e.platform s.vm P1.m.cls T.fill = .method T.fill := by
    obtain ⟨c2, r2, m2, q1, q2, q3, q4, -⟩ := Cond.selects_spec (a' (.selects cls Bundle.tFill Bundle.tFill) (by simp [nxA]))
    cases Option.some.inj (q1.symm.trans hfound)
    cases Option.some.inj (q2.symm.trans (State.methodFound?_of_named Y.fill (by decide)))
    cases Option.some.inj (q3.symm.trans Y.fill)
    rw [Launch.admits_selectMethod X.admits]; exact q4
  obtain ⟨cellS0, hcS0, hiss⟩ := Y.statics
  obtain ⟨u0, hu0⟩ := Cond.staticRefV Y.unassigned L.unassignedStatic L.statics hcS0 hiss (a' (.isRef (.static Bundle.tN "UNASSIGNED_STACK" Bundle.steD)) (by simp [nxA]))
  obtain ⟨sen, hsen⟩ := Cond.staticRefV Y.sentinel L.sentinelStatic L.statics hcS0 hiss (a' (.isRef (.static Bundle.tN "SUPPRESSED_SENTINEL" Bundle.listD)) (by simp [nxA]))
  obtain ⟨ci198, i198, fB, hk198, hg198, ha198, hsB, -, hnB, htB, hffB⟩ := Cond.ownField (t := .object "java/lang/Object") Y.found L.cls (by decide +kernel) (a' (.fieldLink Bundle.tN 198 Bundle.tN "backtrace" "Ljava/lang/Object;") (by simp [nxA])) (a' (.lays Bundle.tN Bundle.tN "backtrace" "Ljava/lang/Object;") (by simp [nxA])) e.platform hpl
  obtain ⟨cellS, hcS', heS, -, hkeep⟩ := X.same.2.2.2.2.2 T.aS cellS0 hcS0
  have hcellS : W.heap[T.aS]? = some cellS := hcS'
  have hout' : ∀ i, (⟨T.aS, i⟩ : Loc) ∉ locs := fun i hmem => by
    have := hlocs _ hmem cellS0 hcS0
    rw [hiss] at this; cases this
  have hknownS : cellS.vm ≠ .unknown := by
    rw [heS]; intro hu
    rw [show cellS0.vm = .unknown from hu] at hiss
    cases hiss
  have hneS : T.aS ≠ a := Nat.ne_of_lt (Nat.lt_of_lt_of_le (Array.getElem?_eq_some_iff.mp hcS0).1 hnew)
  obtain ⟨iM, hffM⟩ := Y.msg
  obtain ⟨tyC, dC, hdC, hdnC⟩ := Cond.laysAt hfound hk Y.cause (a' (.lays cls Bundle.tN "cause" "Ljava/lang/Throwable;") (by simp [nxA]))
  obtain ⟨tyS, dS, hdS, hdnS⟩ := Cond.laysAt hfound hk Y.stack (a' (.lays cls Bundle.tN "stackTrace" Bundle.steD) (by simp [nxA]))
  obtain ⟨tyP, dP, hdP, hdnP⟩ := Cond.laysAt hfound hk Y.supp (a' (.lays cls Bundle.tN "suppressedExceptions" Bundle.listD) (by simp [nxA]))
  obtain ⟨tyM, dM, hdM, hdnM⟩ := Cond.laysAt hfound hk hffM (a' (.lays cls Bundle.tN "detailMessage" "Ljava/lang/String;") (by simp [nxA]))
  obtain ⟨tyB, dB, hdB, hdnB⟩ := Cond.laysAt hfound hk hffB (a' (.lays cls Bundle.tN "backtrace" "Ljava/lang/Object;") (by simp [nxA]))
  have bC := Cond.laysApart hdB hdC hdnB hdnC (by rw [hnB, Y.causeName]; decide)
  have bS := Cond.laysApart hdB hdS hdnB hdnS (by rw [hnB, Y.stackName]; decide)
  have bP := Cond.laysApart hdB hdP hdnB hdnP (by rw [hnB, Y.suppName]; decide)
  have hskip : SkipFacts T e.platform s (fun u => u) u0 ((preparedCellV T.toThrowableT (freshCell P1.m.cls kX) a u0 sen).withEntry W.cur) :=
    ⟨{ ci198 := ci198, i198 := i198, fBack := fB }, ⟨hk198, hg198, ha198, hsB⟩, by
      have := fresh_default (c := P1.m.cls) tyB
      rw [htB] at this
      simpa [preparedCellV, Cell.setSlot, Cell.withEntry, Array.getElem?_setIfInBounds, bC, bS, bP, bC.symm, bS.symm, bP.symm, defaultValue] using this, fun _ _ => rfl⟩
  obtain ⟨tm, methC, cdC, kC, vm₁, hnC, -, -, -, -, -, -, -, hW₁, st1⟩ := Steps.initColdS (tb := p.tables) (e := e) (below := below) (s := s) (U := W) X.here hexec X.warmed hpl hown (t := Bundle.initS cls) rfl rfl (Bundle.fit_spec hcls).2
    (a' (.methodLink own ic (Bundle.initS cls)) (by simp [nxA])) (h (.instanceMethod (Bundle.initS cls)) (by simp [nxA, Bundle.passSAtoms])) (bytes := rx) (maxL := 2) (h (.code (Bundle.initS cls) rx 2 none) (by simp [nxA, Bundle.passSAtoms]))
    (f := g) hg (a := a) (msg := msg) (rest := .ref a :: rest) hstack hd6
  cases Option.some.inj (hnC.symm.trans hP1m)
  have X₁ := X.noted hW₁
  obtain ⟨vm₂, X₂, st2⟩ := X₁.ctorMessageOffV hexec (g := { g with stack := .ref a :: rest }) hg hsize T L Z LZ M LM (P1 :: Ps)
    (fun P hP => by rcases List.mem_cons.mp hP with rfl | hP; exact L1; exact hL P hP) ⟨hlink1, hlink⟩ (u0 := u0) (sen := sen) (self := a) hmsg (cell := freshCell P1.m.cls kX) (cellS := cellS)
    hcell (fun _ => by simp) (by simp) rfl rfl hsel0 hselF hcellS hneS hknownS (by rw [hkeep _ (hout' _)]; exact hu0) (by rw [hkeep _ (hout' _)]; exact hsen)
    (Takes.of_laid hk hord tyC (by rw [Y.causeType]; rfl)) (Takes.of_laid hk hord tyS (by rw [Y.stackType]; exact fits_refV_array _ u0)) (Takes.of_laid hk hord tyP (by rw [Y.suppType]; exact fits_refV_object _ sen))
    (Takes.of_laid hk hord tyM (by rw [Y.msgType]; exact fits_refV_object _ ⟨msg, hmsg⟩)) Y.objLocals hskip htr [] hd6
    (by simp only [List.length_cons, hlen]; omega) (by simp only [List.length_cons, hlen]; exact hRlocals)
  have hlt : a < ((W.setVm vm₁).setVm vm₂).heap.size := (Array.getElem?_eq_some_iff.mp hcell).1
  refine ⟨(W.setVm vm₁).setVm vm₂, _, _, X₂, fun y hy => ?_, hlt, rfl, rfl, fun target hwalk => st1 _ (fun acts => ?_)⟩
  · simp only [List.mem_cons, List.not_mem_nil, or_false] at hy
    rcases hy with rfl | rfl | rfl | rfl | rfl <;> rfl
  · rw [doInvoke_state]
    exact st2 _ hwalk
end VXK
section VXK2
variable {p : Program} {l : Launch} {e : Env} {R : Room} {s : State} {m : MethodId} {args : Array Value} {below : List Frame} {meth : Method} {c : Code} {H : Heap} {locs : List Loc} {cells slots : Nat} {Q : State → Prop}
theorem nx_back9 {T S : State} {R' : Room} {k n : Nat} (X : Stand p l e R s m args below meth c T locs cells slots) (Y : Stand p l e R' ((T.setVm s.vm).setFrames (.invoking m args :: below)) m args below meth c T [] 0 0) (Z : Stand p l e R' ((T.setVm s.vm).setFrames (.invoking m args :: below)) m args below meth c S [] k n) :
    Stand p l e R s m args below meth c S locs (cells + k) (slots + n) := by
  have hW0 : s.WarmedH ((T.setVm s.vm).setFrames (.invoking m args :: below)).vm := State.WarmedH.refl s
  refine { admits := X.admits, cas := X.cas, clock := X.clock, frames := X.frames, room := X.room, hears := X.hears, method := X.method, code := X.code, here := Z.here, tail := Z.tail, warmed := State.WarmedH.trans hW0 Z.warmed, limits := Z.limits.trans (Y.limits.symm.trans X.limits), bytes := Z.bytes.trans (Y.bytes.symm.trans X.bytes), same := ?_ }
  obtain ⟨e1, e2⟩ := Z.same
  rw [State.setFrames_setFrames] at e1
  have h2 : (T.setVm s.vm).sameButNew (S.setVm s.vm) [] k n := ⟨e1, e2⟩
  have h3 := X.same.trans h2
  rw [List.append_nil] at h3
  exact h3
variable {ls : Array Slot} {rest : List Value}

/-- 'new E("text")' that isn't thrown at once: the object goes on the stack -/
theorem nx_makeS {cc : ByteArray} {pc : Nat} (hexec : p.tables.exec = Jvm.exec) (hb : c.code = cc) (hl : l.stackTraces = false) {own cls Y9 text : String} {names : List String} {ik is ic sa : Nat} {A : Nat → Prop} {ix : Nat} {rx : ByteArray} (x0 : decode rx 0 = .ok (.aload_n 0, 1)) (x1 : decode rx 1 = .ok (.aload_n 1, 1)) (x2 : decode rx 2 = .ok (.invokespecial ix, 3)) (x5 : decode rx 5 = .ok (.return_, 1))
    (hown : s.vm.findClass own = some m.cls) (hcls : Bundle.fit cls = true) (hY9 : Bundle.fit Y9 = true) (hnames : ∀ n ∈ names, Bundle.fit n = true)
    (hk : (Cond.classLink own ik cls).before args s = true) (hini : (Cond.initialized cls).before args s = true) (hstr : vk_R own is text sa s) (hat : ∀ w ∈ nxS own ic cls Y9 ix rx names, w.before args s = true)
    (hgood : ∀ w ∈ Cond.classLink own ik cls :: Cond.initialized cls :: nxS own ic cls Y9 ix rx names, vx_ot w = true)
    (hU : vx_Zq Bundle.tN "UNASSIGNED_STACK" Bundle.steD A s s.heap) (hN : vx_Zq Bundle.tN "SUPPRESSED_SENTINEL" Bundle.listD A s s.heap) (hS : va_S A s.heap H locs) (hsize : ls.size = c.maxLocals)
    (d0 : decode cc pc = .ok (.new ik, 3)) (d3 : decode cc (pc + 3) = .ok (.dup, 1)) (d4 : decode cc (pc + 4) = .ok (.ldc is, 2)) (d6 : decode cc (pc + 6) = .ok (.invokespecial ic, 3))
    (hRframes : names.length + 4 < R.frames) (hRlocals : (rest.map fun v => v.category).sum + (13 * (names.length + 2) + 43) ≤ R.locals) (hRcells : cells + 1 ≤ R.cells) (hRslots : slots + 6 ≤ R.slots)
    (kk : ∀ (q : Nat) (H1 : Heap) (ce : Cell), H1[q]? = some ce → ce.vm = .none → s.vm.findClass cls = some ce.cls → H.size ≤ H1.size → (∀ x : Nat, x < H.size → H1[x]? = H[x]?) → va_S A s.heap H1 locs → W p l e R s m args below meth c H1 locs (cells + 1) (slots + 6) Q (F0 m (pc + 9) ls (.ref q :: rest))) :
    W p l e R s m args below meth c H locs cells slots Q (F0 m pc ls rest) := by
  intro T hT X
  subst hT
  have htr : e.platform.stackTraces = false := (show e.platform.stackTraces = l.stackTraces by rw [X.admits.platform]).trans hl
  have Y := vx_rebase X (R' := { frames := R.frames, locals := R.locals, cells := 1, slots := 6 }) (Nat.le_refl _) (Nat.le_refl _) hRcells hRslots
  obtain ⟨s', hA'⟩ : ∃ z, z = (T.setVm s.vm).setFrames (.invoking m args :: below) := ⟨_, rfl⟩
  rw [← hA'] at Y
  have hvm : s'.vm = s.vm := by rw [hA']; rfl
  have hhp : s'.heap = T.heap := by rw [hA']; rfl
  have hW0 : s.WarmedH s'.vm := by rw [hvm]; exact State.WarmedH.refl s
  have hat' : ∀ w ∈ nxS own ic cls Y9 ix rx names, w.before args s' = true := fun w hw => vx_ot_at hW0 hvm.symm (hgood w (List.mem_cons_of_mem _ (List.mem_cons_of_mem _ hw))) (hat w hw)
  have hk' : (Cond.classLink own ik cls).before args s' = true := vx_ot_at hW0 hvm.symm (hgood _ List.mem_cons_self) hk
  have hini' : (Cond.initialized cls).before args s' = true := vx_ot_at hW0 hvm.symm (hgood _ (List.mem_cons_of_mem _ List.mem_cons_self)) hini
  have hU' : vx_Zq Bundle.tN "UNASSIGNED_STACK" Bundle.steD A s' s'.heap := by rw [hhp]; exact vx_Zq.moved hW0.alike (hU.kept hS.2.1)
  have hN' : vx_Zq Bundle.tN "SUPPRESSED_SENTINEL" Bundle.listD A s' s'.heap := by rw [hhp]; exact vx_Zq.moved hW0.alike (hN.kept hS.2.1)
  have h : ∀ w ∈ nxA own ic cls Y9 ix rx names, w.before args s' = true := vx_own hat' (vx_isRefq hU'.1) (vx_isRefq hN'.1) hU'.2.word hN'.2.word
  have hown' : s'.vm.findClass own = some m.cls := by rw [hvm]; exact hown
  have hins : (Cond.instantiable cls 6).before args s' = true := h _ (by simp [nxA])
  obtain ⟨vm₁, cX, kX, hfX, hkX, -, -, X₁, st1⟩ := Y.newCold hexec (own := own) (C := cls) (index := ik) (n := 6) hown' hk' hins hini'
    (g := F0 m pc ls rest) rfl (by rw [hb]; exact d0) (Nat.le_refl _) (Nat.le_refl _)
  generalize hT1 : (T.setVm vm₁).pushCell { cls := cX, slots := kX.instanceTypes.map defaultValue, vm := .none } = T1 at X₁ st1
  have hcat : (Value.ref T.heap.size).category = 1 := rfl
  have hcellA : T1.heap[T.heap.size]? = some (freshCell cX kX) := by rw [← hT1]; exact State.heap_pushCell_size _ _
  have d3' : decode c.code (pc + 3) = .ok (.dup, 1) := by rw [hb]; exact d3
  have d4' : decode c.code (pc + 4) = .ok (.ldc is, 2) := by rw [hb]; exact d4
  have hstr' : vk_R own is text sa s' := vk_R.warm hW0 hstr
  obtain ⟨V, ce, L, Z, hL, hlt, hcl9, hvm9, st⟩ := nx_ctorMadeS X₁ hexec htr (own := own) (cls := cls) (names := names) (ic := ic) x0 x1 x2 x5 hown' hcls hY9 hnames h (fun x hx => nomatch hx) hfX hkX hcellA (by rw [hhp]; exact Nat.le_refl _) (msg := .ref sa) rfl
    (g := { method := m, pc := pc + 6, locals := ls, stack := .ref sa :: .ref T.heap.size :: .ref T.heap.size :: rest, locked := none }) rfl hsize (rest := rest) rfl
    (by rw [hb]; exact d6) hRframes (by simp only [List.map_cons, List.sum_cons, hcat]; omega)
  have Z0 := Stand.forget (locs := []) Z (fun y hy => by rw [hL y hy, hhp]; exact Nat.le_refl _)
  obtain ⟨f1, f2⟩ := vx_frame Z0.same
  rw [hhp] at f1 f2
  have hcid : s.vm.findClass cls = some ce.cls := by
    rw [hcl9, ← hvm]
    exact hfX
  have hh : (V.setCell T.heap.size ce).heap[T.heap.size]? = some ce := heapAt_setCell_self (s := V) ce hlt
  subst hA'
  have X5 := nx_back9 X Y Z0
  have X6 : Stand p l e R s m args below meth c (V.setCell T.heap.size ce) locs (cells + 1) (slots + 6) := { X5 with same := X5.same.mono (by omega) (by omega) }
  obtain ⟨t, a1, b1⟩ := kk T.heap.size (V.setCell T.heap.size ce).heap ce hh hvm9 hcid f1 (fun x hx => f2 x hx (fun z hz => nomatch hz)) ⟨Nat.le_trans hS.1 f1, fun q h1 h2 => (f2 q (Nat.lt_of_lt_of_le h1 hS.1) (fun z hz => nomatch hz)).trans (hS.2.1 q h1 h2), hS.2.2⟩ _ rfl X6
  refine ⟨t, st1 _ ?_, b1⟩
  show Steps p.tables e below (T1.setTop { method := m, pc := pc + 3, locals := ls, stack := .ref T.heap.size :: rest, locked := none }) _
  jvm_step X₁.here [X₁.here.top, hexec, d3', Value.category]
  exact X₁.ldcString hexec (own := own) (text := text) (index := is) (a := sa) hown' hstr'.1 hstr'.2
    (g := { method := m, pc := pc + 4, locals := ls, stack := .ref T.heap.size :: .ref T.heap.size :: rest, locked := none }) rfl d4' _ (st _ a1)
/-- 'throw x' of an object that was made before -/
theorem nx_athrow {cc : ByteArray} {pc : Nat} (hexec : p.tables.exec = Jvm.exec) (hb : c.code = cc) {q : Addr} (hdg : decode cc pc = .ok (.athrow, 1)) (k : vx_W p l e R s m args below meth c H locs cells slots Q (F0 m pc ls rest) q) : W p l e R s m args below meth c H locs cells slots Q (F0 m pc ls (.ref q :: rest)) := by
  intro T hT X
  obtain ⟨t, st, hq⟩ := k T hT X
  refine ⟨t, ?_, hq⟩
  have hdg' : decode c.code pc = .ok (.athrow, 1) := by rw [hb]; exact hdg
  jvm_step X.here [X.here.top, hexec, hdg', athrow.wp_sem]
  exact st
end VXK2
section NSErow
def exM : List String := ["java/lang/Exception"]
variable {p : Program} {l : Launch} {e : Env} {R : Room} {s : State} {m : MethodId} {args : Array Value} {below : List Frame} {meth : Method} {c : Code} {cells slots : Nat} {Q : State → Prop} {cc : ByteArray} {nL : Nat} {ret : Option FieldType} {hh : List (Nat × Nat × Nat × Nat)} {w : Wo} {pc : Nat} {lv : List (Option Value)} {st : List Value} {E : Nat × Nat → va_E}
theorem r_throwN (X : Cx p l R s m args meth c cc nL "Entitled" ret [] w) {text : String} {ik is ic ix mc ms : Nat} {rx : ByteArray} {M : Mem} {G : Lng} (x0 : decode rx 0 = .ok (.aload_n 0, 1)) (x1 : decode rx 1 = .ok (.aload_n 1, 1)) (x2 : decode rx 2 = .ok (.invokespecial ix, 3)) (x5 : decode rx 5 = .ok (.return_, 1)) (hk : Cond.classLink "Entitled" ik xNSE ∈ lw_tbl) (hini : Cond.initialized xNSE ∈ lw_tbl) (hsw : (is, text) ∈ SW) (hat : ∀ q ∈ nxS "Entitled" ic xNSE "java/lang/RuntimeException" ix rx exM, q ∈ lw_tbl ∧ gw q = true ∧ vx_ot q = true)
    (d0 : decode cc pc = .ok (.new ik, 3)) (d3 : decode cc (pc + 3) = .ok (.dup, 1)) (d4 : decode cc (pc + 4) = .ok (.ldc is, 2)) (d6 : decode cc (pc + 6) = .ok (.invokespecial ic, 3)) (d9 : decode cc (pc + 9) = .ok (.athrow, 1))
    (hRf : 5 < R.frames) (hRl : (st.map fun v => v.category).sum + 82 ≤ R.locals) (hRc : cells + 1 ≤ R.cells) (hRs : slots + 6 ≤ R.slots) (hc : cells + 1 ≤ mc) (hs : slots + 6 ≤ ms) {o : Oc} (ho : o = thO xNSE M G) : VE p l e R s m args below meth c cells slots (QV w o below args s mc ms) nL w pc lv st (ev w M G) := fun H locs ls hP hS hL => by
  obtain ⟨sa, hsa⟩ := X.kw.2.2.1 _ hsw
  obtain ⟨hU, hN⟩ := X.hz.all (Nat.le_refl _)
  refine nx_makeS (names := exM) (Y9 := "java/lang/RuntimeException") X.x X.b X.nst x0 x1 x2 x5 X.ow (by decide +kernel) (by decide +kernel) (by decide +kernel) (X.wd hk rfl) (X.wd hini rfl) hsa (fun q hq => X.wd (hat q hq).1 (hat q hq).2.1) (fun q hq => ?_) hU hN hS (by rw [hL.1, X.ml]) d0 d3 d4 d6 hRf hRl hRc hRs (fun q H1 ce g1 g2 g3 g4 g5 hS1 => ?_)
  · rcases List.mem_cons.mp hq with rfl | hq
    · rfl
    · rcases List.mem_cons.mp hq with rfl | hq
      · rfl
      · exact (hat q hq).2.2
  · refine nx_athrow X.x X.b d9 ?_
    exact r_out X hc hs ho H1 locs ls q ce (va_P.kept hP (fun k q hk => g5 q.1 (va_at.lt (hP k q hk)))) hS1 hL g1 g2 g3
theorem dnse_0 : decode prog_17_method_4_code 0 = .ok (.aload_n 0, 1) := by decide +kernel
theorem dnse_1 : decode prog_17_method_4_code 1 = .ok (.aload_n 1, 1) := by decide +kernel
theorem dnse_2 : decode prog_17_method_4_code 2 = .ok (.invokespecial 13, 3) := by decide +kernel
theorem dnse_5 : decode prog_17_method_4_code 5 = .ok (.return_, 1) := by decide +kernel
theorem at_xNSE : ∀ q ∈ nxS "Entitled" 173 xNSE "java/lang/RuntimeException" 13 prog_17_method_4_code exM, q ∈ lw_tbl ∧ gw q = true ∧ vx_ot q = true := by decide +kernel
end NSErow
end
section
/-! words of the tables, by name -/
theorem tb {q : Cond} (h : q ∈ tables_1) : q ∈ lw_tbl := List.mem_append_right _ h
theorem tp {q : Cond} (h : q ∈ k2_sels lw_privs) : q ∈ lw_tbl := List.mem_append_left _ h
theorem ml_L_50 : Cond.methodLink RL 50 yX2_addUnits ∈ lw_tbl := tb (List.mem_of_getElem? (i := 474) (by decide +kernel))
theorem ml_L_100 : Cond.methodLink RL 100 yX2_coverage ∈ lw_tbl := tb (List.mem_of_getElem? (i := 647) (by decide +kernel))
theorem ml_L_71 : Cond.methodLink RL 71 yX2_coveredByTrying ∈ lw_tbl := tb (List.mem_of_getElem? (i := 536) (by decide +kernel))
theorem ml_L_34 : Cond.methodLink RL 34 yX2_entitle ∈ lw_tbl := tb (List.mem_of_getElem? (i := 409) (by decide +kernel))
theorem ml_L_75 : Cond.methodLink RL 75 yX2_entitlementOf ∈ lw_tbl := tb (List.mem_of_getElem? (i := 555) (by decide +kernel))
theorem ml_L_63 : Cond.methodLink RL 63 yX2_firstFitting ∈ lw_tbl := tb (List.mem_of_getElem? (i := 506) (by decide +kernel))
theorem ml_L_60 : Cond.methodLink RL 60 yX2_fitting ∈ lw_tbl := tb (List.mem_of_getElem? (i := 498) (by decide +kernel))
theorem ml_L_7 : Cond.methodLink RL 7 yX2_install ∈ lw_tbl := tb (List.mem_of_getElem? (i := 250) (by decide +kernel))
theorem ml_L_104 : Cond.methodLink RL 104 yX2_init ∈ lw_tbl := tb (List.mem_of_getElem? (i := 17) (by decide +kernel))
theorem ml_L_107 : Cond.methodLink RL 107 yX3_init ∈ lw_tbl := tb (List.mem_of_getElem? (i := 654) (by decide +kernel))
theorem ml_L_108 : Cond.methodLink RL 108 yL_install ∈ lw_tbl := tb (List.mem_of_getElem? (i := 245) (by decide +kernel))
theorem ml_L_113 : Cond.methodLink RL 113 yX3_install ∈ lw_tbl := tb (List.mem_of_getElem? (i := 749) (by decide +kernel))
theorem ml_L_114 : Cond.methodLink RL 114 yX3_thrown ∈ lw_tbl := tb (List.mem_of_getElem? (i := 745) (by decide +kernel))
theorem ml_L_117 : Cond.methodLink RL 117 yL_retire ∈ lw_tbl := tb (List.mem_of_getElem? (i := 353) (by decide +kernel))
theorem ml_L_120 : Cond.methodLink RL 120 yX3_retire ∈ lw_tbl := tb (List.mem_of_getElem? (i := 760) (by decide +kernel))
theorem ml_L_121 : Cond.methodLink RL 121 yL_moveTo ∈ lw_tbl := tb (List.mem_of_getElem? (i := 382) (by decide +kernel))
theorem ml_L_124 : Cond.methodLink RL 124 yX3_moveTo ∈ lw_tbl := tb (List.mem_of_getElem? (i := 772) (by decide +kernel))
theorem ml_L_125 : Cond.methodLink RL 125 yL_setVersion ∈ lw_tbl := tb (List.mem_of_getElem? (i := 390) (by decide +kernel))
theorem ml_L_127 : Cond.methodLink RL 127 yX3_setVersion ∈ lw_tbl := tb (List.mem_of_getElem? (i := 776) (by decide +kernel))
theorem ml_L_128 : Cond.methodLink RL 128 yL_setPool ∈ lw_tbl := tb (List.mem_of_getElem? (i := 398) (by decide +kernel))
theorem ml_L_131 : Cond.methodLink RL 131 yX3_setPool ∈ lw_tbl := tb (List.mem_of_getElem? (i := 780) (by decide +kernel))
theorem ml_L_132 : Cond.methodLink RL 132 yX2_installs ∈ lw_tbl := tb (List.mem_of_getElem? (i := 156) (by decide +kernel))
theorem ml_L_135 : Cond.methodLink RL 135 yX3_installs ∈ lw_tbl := tb (List.mem_of_getElem? (i := 784) (by decide +kernel))
theorem ml_L_136 : Cond.methodLink RL 136 yX2_isThere ∈ lw_tbl := tb (List.mem_of_getElem? (i := 160) (by decide +kernel))
theorem ml_L_140 : Cond.methodLink RL 140 yX3_isThere ∈ lw_tbl := tb (List.mem_of_getElem? (i := 788) (by decide +kernel))
theorem ml_L_141 : Cond.methodLink RL 141 yL_entitle ∈ lw_tbl := tb (List.mem_of_getElem? (i := 406) (by decide +kernel))
theorem ml_L_144 : Cond.methodLink RL 144 yX3_entitle ∈ lw_tbl := tb (List.mem_of_getElem? (i := 789) (by decide +kernel))
theorem ml_L_145 : Cond.methodLink RL 145 yL_setRights ∈ lw_tbl := tb (List.mem_of_getElem? (i := 422) (by decide +kernel))
theorem ml_L_148 : Cond.methodLink RL 148 yX3_setRights ∈ lw_tbl := tb (List.mem_of_getElem? (i := 793) (by decide +kernel))
theorem ml_L_149 : Cond.methodLink RL 149 yL_setMinimum ∈ lw_tbl := tb (List.mem_of_getElem? (i := 438) (by decide +kernel))
theorem ml_L_151 : Cond.methodLink RL 151 yX3_setMinimum ∈ lw_tbl := tb (List.mem_of_getElem? (i := 801) (by decide +kernel))
theorem ml_L_152 : Cond.methodLink RL 152 yL_setPrice ∈ lw_tbl := tb (List.mem_of_getElem? (i := 463) (by decide +kernel))
theorem ml_L_154 : Cond.methodLink RL 154 yX3_setPrice ∈ lw_tbl := tb (List.mem_of_getElem? (i := 805) (by decide +kernel))
theorem ml_L_155 : Cond.methodLink RL 155 yL_addUnits ∈ lw_tbl := tb (List.mem_of_getElem? (i := 471) (by decide +kernel))
theorem ml_L_157 : Cond.methodLink RL 157 yX3_addUnits ∈ lw_tbl := tb (List.mem_of_getElem? (i := 809) (by decide +kernel))
theorem ml_L_158 : Cond.methodLink RL 158 yL_units ∈ lw_tbl := tb (List.mem_of_getElem? (i := 480) (by decide +kernel))
theorem ml_L_160 : Cond.methodLink RL 160 yX3_units ∈ lw_tbl := tb (List.mem_of_getElem? (i := 813) (by decide +kernel))
theorem ml_L_161 : Cond.methodLink RL 161 yL_why ∈ lw_tbl := tb (List.mem_of_getElem? (i := 487) (by decide +kernel))
theorem ml_L_163 : Cond.methodLink RL 163 yX3_why ∈ lw_tbl := tb (List.mem_of_getElem? (i := 817) (by decide +kernel))
theorem ml_L_164 : Cond.methodLink RL 164 yL_fitting ∈ lw_tbl := tb (List.mem_of_getElem? (i := 495) (by decide +kernel))
theorem ml_L_166 : Cond.methodLink RL 166 yX3_fitting ∈ lw_tbl := tb (List.mem_of_getElem? (i := 828) (by decide +kernel))
theorem ml_L_167 : Cond.methodLink RL 167 yL_firstFitting ∈ lw_tbl := tb (List.mem_of_getElem? (i := 502) (by decide +kernel))
theorem ml_L_169 : Cond.methodLink RL 169 yX3_firstFitting ∈ lw_tbl := tb (List.mem_of_getElem? (i := 840) (by decide +kernel))
theorem ml_L_170 : Cond.methodLink RL 170 yL_unitsForAll ∈ lw_tbl := tb (List.mem_of_getElem? (i := 526) (by decide +kernel))
theorem ml_L_172 : Cond.methodLink RL 172 yX3_unitsForAll ∈ lw_tbl := tb (List.mem_of_getElem? (i := 844) (by decide +kernel))
theorem ml_L_173 : Cond.methodLink RL 173 yX2_covered ∈ lw_tbl := tb (List.mem_of_getElem? (i := 167) (by decide +kernel))
theorem ml_L_176 : Cond.methodLink RL 176 yX3_covered ∈ lw_tbl := tb (List.mem_of_getElem? (i := 856) (by decide +kernel))
theorem ml_L_177 : Cond.methodLink RL 177 yL_coveredByTrying ∈ lw_tbl := tb (List.mem_of_getElem? (i := 533) (by decide +kernel))
theorem ml_L_180 : Cond.methodLink RL 180 yX3_coveredByTrying ∈ lw_tbl := tb (List.mem_of_getElem? (i := 884) (by decide +kernel))
theorem ml_L_181 : Cond.methodLink RL 181 yL_entitlementOf ∈ lw_tbl := tb (List.mem_of_getElem? (i := 552) (by decide +kernel))
theorem ml_L_183 : Cond.methodLink RL 183 yX3_entitlementOf ∈ lw_tbl := tb (List.mem_of_getElem? (i := 889) (by decide +kernel))
theorem ml_L_184 : Cond.methodLink RL 184 yL_reason ∈ lw_tbl := tb (List.mem_of_getElem? (i := 564) (by decide +kernel))
theorem ml_L_186 : Cond.methodLink RL 186 yX3_reason ∈ lw_tbl := tb (List.mem_of_getElem? (i := 893) (by decide +kernel))
theorem ml_L_187 : Cond.methodLink RL 187 yL_used ∈ lw_tbl := tb (List.mem_of_getElem? (i := 572) (by decide +kernel))
theorem ml_L_189 : Cond.methodLink RL 189 yX3_used ∈ lw_tbl := tb (List.mem_of_getElem? (i := 897) (by decide +kernel))
theorem ml_L_190 : Cond.methodLink RL 190 yL_spare ∈ lw_tbl := tb (List.mem_of_getElem? (i := 583) (by decide +kernel))
theorem ml_L_192 : Cond.methodLink RL 192 yX3_spare ∈ lw_tbl := tb (List.mem_of_getElem? (i := 901) (by decide +kernel))
theorem ml_L_193 : Cond.methodLink RL 193 yL_purchase ∈ lw_tbl := tb (List.mem_of_getElem? (i := 591) (by decide +kernel))
theorem ml_L_195 : Cond.methodLink RL 195 yX3_purchase ∈ lw_tbl := tb (List.mem_of_getElem? (i := 905) (by decide +kernel))
theorem ml_L_196 : Cond.methodLink RL 196 yL_purchaseByTrying ∈ lw_tbl := tb (List.mem_of_getElem? (i := 616) (by decide +kernel))
theorem ml_L_198 : Cond.methodLink RL 198 yX3_purchaseByTrying ∈ lw_tbl := tb (List.mem_of_getElem? (i := 925) (by decide +kernel))
theorem ml_L_199 : Cond.methodLink RL 199 yL_toBuy ∈ lw_tbl := tb (List.mem_of_getElem? (i := 630) (by decide +kernel))
theorem ml_L_201 : Cond.methodLink RL 201 yX3_toBuy ∈ lw_tbl := tb (List.mem_of_getElem? (i := 929) (by decide +kernel))
theorem ml_L_202 : Cond.methodLink RL 202 yL_trueUp ∈ lw_tbl := tb (List.mem_of_getElem? (i := 637) (by decide +kernel))
theorem ml_L_204 : Cond.methodLink RL 204 yX3_trueUp ∈ lw_tbl := tb (List.mem_of_getElem? (i := 933) (by decide +kernel))
theorem ml_L_205 : Cond.methodLink RL 205 yX2_spent ∈ lw_tbl := tb (List.mem_of_getElem? (i := 241) (by decide +kernel))
theorem ml_L_209 : Cond.methodLink RL 209 yX3_spent ∈ lw_tbl := tb (List.mem_of_getElem? (i := 937) (by decide +kernel))
theorem ml_L_210 : Cond.methodLink RL 210 yL_coverage ∈ lw_tbl := tb (List.mem_of_getElem? (i := 644) (by decide +kernel))
theorem ml_L_213 : Cond.methodLink RL 213 yX3_coverage ∈ lw_tbl := tb (List.mem_of_getElem? (i := 941) (by decide +kernel))
theorem ml_L_23 : Cond.methodLink RL 23 yX2_moveTo ∈ lw_tbl := tb (List.mem_of_getElem? (i := 385) (by decide +kernel))
theorem ml_L_88 : Cond.methodLink RL 88 yX2_purchase ∈ lw_tbl := tb (List.mem_of_getElem? (i := 594) (by decide +kernel))
theorem ml_L_91 : Cond.methodLink RL 91 yX2_purchaseByTrying ∈ lw_tbl := tb (List.mem_of_getElem? (i := 619) (by decide +kernel))
theorem ml_L_78 : Cond.methodLink RL 78 yX2_reason ∈ lw_tbl := tb (List.mem_of_getElem? (i := 567) (by decide +kernel))
theorem ml_L_17 : Cond.methodLink RL 17 yX2_retire ∈ lw_tbl := tb (List.mem_of_getElem? (i := 357) (by decide +kernel))
theorem ml_L_42 : Cond.methodLink RL 42 yX2_setMinimum ∈ lw_tbl := tb (List.mem_of_getElem? (i := 442) (by decide +kernel))
theorem ml_L_30 : Cond.methodLink RL 30 yX2_setPool ∈ lw_tbl := tb (List.mem_of_getElem? (i := 401) (by decide +kernel))
theorem ml_L_47 : Cond.methodLink RL 47 yX2_setPrice ∈ lw_tbl := tb (List.mem_of_getElem? (i := 466) (by decide +kernel))
theorem ml_L_38 : Cond.methodLink RL 38 yX2_setRights ∈ lw_tbl := tb (List.mem_of_getElem? (i := 425) (by decide +kernel))
theorem ml_L_27 : Cond.methodLink RL 27 yX2_setVersion ∈ lw_tbl := tb (List.mem_of_getElem? (i := 393) (by decide +kernel))
theorem ml_L_85 : Cond.methodLink RL 85 yX2_spare ∈ lw_tbl := tb (List.mem_of_getElem? (i := 586) (by decide +kernel))
theorem ml_L_94 : Cond.methodLink RL 94 yX2_toBuy ∈ lw_tbl := tb (List.mem_of_getElem? (i := 633) (by decide +kernel))
theorem ml_L_97 : Cond.methodLink RL 97 yX2_trueUp ∈ lw_tbl := tb (List.mem_of_getElem? (i := 640) (by decide +kernel))
theorem ml_L_53 : Cond.methodLink RL 53 yX2_units ∈ lw_tbl := tb (List.mem_of_getElem? (i := 483) (by decide +kernel))
theorem ml_L_68 : Cond.methodLink RL 68 yX2_unitsForAll ∈ lw_tbl := tb (List.mem_of_getElem? (i := 529) (by decide +kernel))
theorem ml_L_82 : Cond.methodLink RL 82 yX2_used ∈ lw_tbl := tb (List.mem_of_getElem? (i := 575) (by decide +kernel))
theorem ml_L_56 : Cond.methodLink RL 56 yX2_why ∈ lw_tbl := tb (List.mem_of_getElem? (i := 490) (by decide +kernel))
theorem fl_X0_25 : Cond.fieldLink RX0 25 RX0 (TX0 3).2.1 (TX0 3).2.2.1 ∈ lw_tbl := tb (List.mem_of_getElem? (i := 79) (by decide +kernel))
theorem fl_X0_66 : Cond.fieldLink RX0 66 RX0 (TX0 12).2.1 (TX0 12).2.2.1 ∈ lw_tbl := tb (List.mem_of_getElem? (i := 95) (by decide +kernel))
theorem fl_X0_73 : Cond.fieldLinkNest RX0 73 RX1 (TX1 6).2.1 (TX1 6).2.2.1 "Entitled" ∈ lw_tbl := tb (List.mem_of_getElem? (i := 48) (by decide +kernel))
theorem fl_X0_35 : Cond.fieldLink RX0 35 RX0 (TX0 6).2.1 (TX0 6).2.2.1 ∈ lw_tbl := tb (List.mem_of_getElem? (i := 84) (by decide +kernel))
theorem mx_X0_76 : Cond.methodLink RX0 76 Lib.Math.max.name ∈ lw_tbl := tb (List.mem_of_getElem? (i := 221) (by decide +kernel))
theorem fl_X0_82 : Cond.fieldLinkNest RX0 82 RX1 (TX1 4).2.1 (TX1 4).2.2.1 "Entitled" ∈ lw_tbl := tb (List.mem_of_getElem? (i := 43) (by decide +kernel))
theorem fl_X0_85 : Cond.fieldLinkNest RX0 85 RX1 (TX1 5).2.1 (TX1 5).2.2.1 "Entitled" ∈ lw_tbl := tb (List.mem_of_getElem? (i := 46) (by decide +kernel))
theorem ml_X0_88 : Cond.methodLinkNest RX0 88 yX2_isBetween "Entitled" ∈ lw_tbl := tb (List.mem_of_getElem? (i := 224) (by decide +kernel))
theorem fl_X0_60 : Cond.fieldLinkNest RX0 60 RX1 (TX1 1).2.1 (TX1 1).2.2.1 "Entitled" ∈ lw_tbl := tb (List.mem_of_getElem? (i := 34) (by decide +kernel))
theorem ml_X0_92 : Cond.methodLink RX0 92 yX0_unitsOfHolder ∈ lw_tbl := tb (List.mem_of_getElem? (i := 225) (by decide +kernel))
theorem fl_X0_9 : Cond.fieldLink RX0 9 RX0 (TX0 11).2.1 (TX0 11).2.2.1 ∈ lw_tbl := tb (List.mem_of_getElem? (i := 94) (by decide +kernel))
theorem fl_X0_41 : Cond.fieldLink RX0 41 RX0 (TX0 8).2.1 (TX0 8).2.2.1 ∈ lw_tbl := tb (List.mem_of_getElem? (i := 88) (by decide +kernel))
theorem fl_X0_45 : Cond.fieldLink RX0 45 RX0 (TX0 9).2.1 (TX0 9).2.2.1 ∈ lw_tbl := tb (List.mem_of_getElem? (i := 90) (by decide +kernel))
theorem fl_X0_48 : Cond.fieldLink RX0 48 RX0 (TX0 10).2.1 (TX0 10).2.2.1 ∈ lw_tbl := tb (List.mem_of_getElem? (i := 92) (by decide +kernel))
theorem fl_X0_15 : Cond.fieldLink RX0 15 RX0 (TX0 0).2.1 (TX0 0).2.2.1 ∈ lw_tbl := tb (List.mem_of_getElem? (i := 76) (by decide +kernel))
theorem fl_X0_19 : Cond.fieldLink RX0 19 RX0 (TX0 1).2.1 (TX0 1).2.2.1 ∈ lw_tbl := tb (List.mem_of_getElem? (i := 77) (by decide +kernel))
theorem fl_X0_22 : Cond.fieldLink RX0 22 RX0 (TX0 2).2.1 (TX0 2).2.2.1 ∈ lw_tbl := tb (List.mem_of_getElem? (i := 78) (by decide +kernel))
theorem fl_X0_29 : Cond.fieldLink RX0 29 RX0 (TX0 4).2.1 (TX0 4).2.2.1 ∈ lw_tbl := tb (List.mem_of_getElem? (i := 81) (by decide +kernel))
theorem fl_X0_32 : Cond.fieldLink RX0 32 RX0 (TX0 5).2.1 (TX0 5).2.2.1 ∈ lw_tbl := tb (List.mem_of_getElem? (i := 83) (by decide +kernel))
theorem fl_X0_38 : Cond.fieldLink RX0 38 RX0 (TX0 7).2.1 (TX0 7).2.2.1 ∈ lw_tbl := tb (List.mem_of_getElem? (i := 86) (by decide +kernel))
theorem fl_X0_51 : Cond.fieldLinkNest RX0 51 RX1 (TX1 0).2.1 (TX1 0).2.2.1 "Entitled" ∈ lw_tbl := tb (List.mem_of_getElem? (i := 32) (by decide +kernel))
theorem ml_X0_56 : Cond.methodLink RX0 56 yX0_misfit ∈ lw_tbl := tb (List.mem_of_getElem? (i := 195) (by decide +kernel))
theorem fl_X0_63 : Cond.fieldLinkNest RX0 63 RX1 (TX1 7).2.1 (TX1 7).2.2.1 "Entitled" ∈ lw_tbl := tb (List.mem_of_getElem? (i := 50) (by decide +kernel))
theorem fl_X0_64 : Cond.fieldLinkNest RX0 64 RX1 (TX1 3).2.1 (TX1 3).2.2.1 "Entitled" ∈ lw_tbl := tb (List.mem_of_getElem? (i := 39) (by decide +kernel))
theorem fl_X0_65 : Cond.fieldLinkNest RX0 65 RX1 (TX1 2).2.1 (TX1 2).2.2.1 "Entitled" ∈ lw_tbl := tb (List.mem_of_getElem? (i := 37) (by decide +kernel))
theorem ml_X0_96 : Cond.methodLink RX0 96 yX0_missing ∈ lw_tbl := tb (List.mem_of_getElem? (i := 615) (by decide +kernel))
theorem ml_X0_69 : Cond.methodLink RX0 69 yX0_changeNeed ∈ lw_tbl := tb (List.mem_of_getElem? (i := 217) (by decide +kernel))
theorem fl_X1_7 : Cond.fieldLink RX1 7 RX1 (TX1 0).2.1 (TX1 0).2.2.1 ∈ lw_tbl := tb (List.mem_of_getElem? (i := 30) (by decide +kernel))
theorem fl_X1_13 : Cond.fieldLink RX1 13 RX1 (TX1 1).2.1 (TX1 1).2.2.1 ∈ lw_tbl := tb (List.mem_of_getElem? (i := 33) (by decide +kernel))
theorem fl_X1_17 : Cond.fieldLink RX1 17 RX1 (TX1 2).2.1 (TX1 2).2.2.1 ∈ lw_tbl := tb (List.mem_of_getElem? (i := 35) (by decide +kernel))
theorem fl_X1_20 : Cond.fieldLink RX1 20 RX1 (TX1 3).2.1 (TX1 3).2.2.1 ∈ lw_tbl := tb (List.mem_of_getElem? (i := 38) (by decide +kernel))
theorem fl_X1_23 : Cond.fieldLink RX1 23 RX1 (TX1 4).2.1 (TX1 4).2.2.1 ∈ lw_tbl := tb (List.mem_of_getElem? (i := 41) (by decide +kernel))
theorem fl_X1_26 : Cond.fieldLink RX1 26 RX1 (TX1 5).2.1 (TX1 5).2.2.1 ∈ lw_tbl := tb (List.mem_of_getElem? (i := 44) (by decide +kernel))
theorem fl_X1_29 : Cond.fieldLink RX1 29 RX1 (TX1 6).2.1 (TX1 6).2.2.1 ∈ lw_tbl := tb (List.mem_of_getElem? (i := 47) (by decide +kernel))
theorem fl_X1_32 : Cond.fieldLink RX1 32 RX1 (TX1 7).2.1 (TX1 7).2.2.1 ∈ lw_tbl := tb (List.mem_of_getElem? (i := 49) (by decide +kernel))
theorem ml_X2_114 : Cond.methodLink RX2 114 yX2_entitlementAt ∈ lw_tbl := tb (List.mem_of_getElem? (i := 429) (by decide +kernel))
theorem ml_X2_33 : Cond.methodLink RX2 33 yX2_isBetween ∈ lw_tbl := tb (List.mem_of_getElem? (i := 164) (by decide +kernel))
theorem fl_X2_152 : Cond.fieldLinkNest RX2 152 RX0 (TX0 4).2.1 (TX0 4).2.2.1 "Entitled" ∈ lw_tbl := tb (List.mem_of_getElem? (i := 82) (by decide +kernel))
theorem fl_X2_11 : Cond.fieldLink RX2 11 RX2 (TX2 0).2.1 (TX2 0).2.2.1 ∈ lw_tbl := tb (List.mem_of_getElem? (i := 125) (by decide +kernel))
theorem fl_X2_75 : Cond.fieldLinkNest RX2 75 RX1 (TX1 0).2.1 (TX1 0).2.2.1 "Entitled" ∈ lw_tbl := tb (List.mem_of_getElem? (i := 31) (by decide +kernel))
theorem ml_X2_161 : Cond.methodLink RX2 161 yX2_countFitting ∈ lw_tbl := tb (List.mem_of_getElem? (i := 187) (by decide +kernel))
theorem fl_X2_18 : Cond.fieldLink RX2 18 RX2 (TX2 1).2.1 (TX2 1).2.2.1 ∈ lw_tbl := tb (List.mem_of_getElem? (i := 126) (by decide +kernel))
theorem ml_X2_174 : Cond.methodLinkNest RX2 174 yX0_clearNeed "Entitled" ∈ lw_tbl := tb (List.mem_of_getElem? (i := 183) (by decide +kernel))
theorem fl_X2_23 : Cond.fieldLink RX2 23 RX2 (TX2 6).2.1 (TX2 6).2.2.1 ∈ lw_tbl := tb (List.mem_of_getElem? (i := 131) (by decide +kernel))
theorem fl_X2_27 : Cond.fieldLink RX2 27 RX2 (TX2 7).2.1 (TX2 7).2.2.1 ∈ lw_tbl := tb (List.mem_of_getElem? (i := 132) (by decide +kernel))
theorem ml_X2_278 : Cond.methodLink RX2 278 yX2_clearNeeds ∈ lw_tbl := tb (List.mem_of_getElem? (i := 179) (by decide +kernel))
theorem fl_X2_197 : Cond.fieldLink RX2 197 RX2 (TX2 9).2.1 (TX2 9).2.2.1 ∈ lw_tbl := tb (List.mem_of_getElem? (i := 134) (by decide +kernel))
theorem ml_X2_165 : Cond.methodLinkNest RX2 165 yX0_fits "Entitled" ∈ lw_tbl := tb (List.mem_of_getElem? (i := 191) (by decide +kernel))
theorem fl_X2_55 : Cond.fieldLink RX2 55 RX2 (TX2 3).2.1 (TX2 3).2.2.1 ∈ lw_tbl := tb (List.mem_of_getElem? (i := 128) (by decide +kernel))
theorem ml_X2_184 : Cond.methodLink RX2 184 yX2_findCover ∈ lw_tbl := tb (List.mem_of_getElem? (i := 171) (by decide +kernel))
theorem ml_X2_189 : Cond.methodLink RX2 189 yX2_clearSearch ∈ lw_tbl := tb (List.mem_of_getElem? (i := 175) (by decide +kernel))
theorem ml_X2_193 : Cond.methodLink RX2 193 yX2_tryCovers ∈ lw_tbl := tb (List.mem_of_getElem? (i := 541) (by decide +kernel))
theorem ml_X2_37 : Cond.methodLink RX2 37 yX2_isRelease ∈ lw_tbl := tb (List.mem_of_getElem? (i := 254) (by decide +kernel))
theorem ml_X2_100 : Cond.methodLink RX2 100 yX2_isMetric ∈ lw_tbl := tb (List.mem_of_getElem? (i := 413) (by decide +kernel))
theorem ml_X2_45 : Cond.methodLink RX2 45 yX2_isPool ∈ lw_tbl := tb (List.mem_of_getElem? (i := 260) (by decide +kernel))
theorem fl_X2_106 : Cond.fieldLink RX2 106 RX2 (TX2 4).2.1 (TX2 4).2.2.1 ∈ lw_tbl := tb (List.mem_of_getElem? (i := 129) (by decide +kernel))
theorem ml_X2_111 : Cond.methodLinkNest RX2 111 yX0_fill "Entitled" ∈ lw_tbl := tb (List.mem_of_getElem? (i := 418) (by decide +kernel))
theorem ml_X2_236 : Cond.methodLink RX2 236 yX2_isThere ∈ lw_tbl := tb (List.mem_of_getElem? (i := 365) (by decide +kernel))
theorem ml_X2_200 : Cond.methodLink RX2 200 yX2_entitlementByCover ∈ lw_tbl := tb (List.mem_of_getElem? (i := 559) (by decide +kernel))
theorem fl_X2_30 : Cond.fieldLink RX2 30 RX2 (TX2 8).2.1 (TX2 8).2.2.1 ∈ lw_tbl := tb (List.mem_of_getElem? (i := 133) (by decide +kernel))
theorem ml_X2_248 : Cond.methodLink RX2 248 yX2_searchCover ∈ lw_tbl := tb (List.mem_of_getElem? (i := 199) (by decide +kernel))
theorem ml_X2_252 : Cond.methodLink RX2 252 yX2_searchPurchase ∈ lw_tbl := tb (List.mem_of_getElem? (i := 608) (by decide +kernel))
theorem ml_X2_71 : Cond.methodLink RX2 71 yX2_installAt ∈ lw_tbl := tb (List.mem_of_getElem? (i := 361) (by decide +kernel))
theorem ml_X2_177 : Cond.methodLinkNest RX2 177 yX0_serve "Entitled" ∈ lw_tbl := tb (List.mem_of_getElem? (i := 213) (by decide +kernel))
theorem ml_X2_15 : Cond.methodLinkNest RX2 15 yX1_init "Entitled" ∈ lw_tbl := tb (List.mem_of_getElem? (i := 26) (by decide +kernel))
theorem ml_X2_22 : Cond.methodLinkNest RX2 22 yX0_init "Entitled" ∈ lw_tbl := tb (List.mem_of_getElem? (i := 72) (by decide +kernel))
theorem ml_X2_41 : Cond.methodLink RX2 41 yX2_isHolder ∈ lw_tbl := tb (List.mem_of_getElem? (i := 257) (by decide +kernel))
theorem fl_X2_59 : Cond.fieldLink RX2 59 RX2 (TX2 2).2.1 (TX2 2).2.2.1 ∈ lw_tbl := tb (List.mem_of_getElem? (i := 127) (by decide +kernel))
theorem ml_X2_67 : Cond.methodLinkNest RX2 67 yX1_fill "Entitled" ∈ lw_tbl := tb (List.mem_of_getElem? (i := 349) (by decide +kernel))
theorem ml_X2_227 : Cond.methodLinkNest RX2 227 yX0_missing "Entitled" ∈ lw_tbl := tb (List.mem_of_getElem? (i := 229) (by decide +kernel))
theorem fl_X2_81 : Cond.fieldLinkNest RX2 81 RX1 (TX1 4).2.1 (TX1 4).2.2.1 "Entitled" ∈ lw_tbl := tb (List.mem_of_getElem? (i := 42) (by decide +kernel))
theorem fl_X2_84 : Cond.fieldLinkNest RX2 84 RX1 (TX1 5).2.1 (TX1 5).2.2.1 "Entitled" ∈ lw_tbl := tb (List.mem_of_getElem? (i := 45) (by decide +kernel))
theorem ml_X2_215 : Cond.methodLink RX2 215 yX2_checkAllCanBeCovered ∈ lw_tbl := tb (List.mem_of_getElem? (i := 598) (by decide +kernel))
theorem ml_X2_218 : Cond.methodLink RX2 218 yX2_findPurchase ∈ lw_tbl := tb (List.mem_of_getElem? (i := 603) (by decide +kernel))
theorem ml_X2_224 : Cond.methodLink RX2 224 yX2_tryPurchases ∈ lw_tbl := tb (List.mem_of_getElem? (i := 623) (by decide +kernel))
theorem ml_X2_206 : Cond.methodLink RX2 206 yX2_fitting ∈ lw_tbl := tb (List.mem_of_getElem? (i := 571) (by decide +kernel))
theorem ml_X2_255 : Cond.methodLink RX2 255 yX2_keepAsBest ∈ lw_tbl := tb (List.mem_of_getElem? (i := 202) (by decide +kernel))
theorem ml_X2_258 : Cond.methodLink RX2 258 yX2_give ∈ lw_tbl := tb (List.mem_of_getElem? (i := 209) (by decide +kernel))
theorem ml_X2_262 : Cond.methodLink RX2 262 yX2_takeBack ∈ lw_tbl := tb (List.mem_of_getElem? (i := 233) (by decide +kernel))
theorem ml_X2_265 : Cond.methodLinkNest RX2 265 yX0_missingPrice "Entitled" ∈ lw_tbl := tb (List.mem_of_getElem? (i := 611) (by decide +kernel))
theorem fl_X2_133 : Cond.fieldLinkNest RX2 133 RX0 (TX0 3).2.1 (TX0 3).2.2.1 "Entitled" ∈ lw_tbl := tb (List.mem_of_getElem? (i := 80) (by decide +kernel))
theorem fl_X2_142 : Cond.fieldLinkNest RX2 142 RX0 (TX0 6).2.1 (TX0 6).2.2.1 "Entitled" ∈ lw_tbl := tb (List.mem_of_getElem? (i := 85) (by decide +kernel))
theorem fl_X2_97 : Cond.fieldLinkNest RX2 97 RX1 (TX1 7).2.1 (TX1 7).2.2.1 "Entitled" ∈ lw_tbl := tb (List.mem_of_getElem? (i := 51) (by decide +kernel))
theorem fl_X2_147 : Cond.fieldLinkNest RX2 147 RX0 (TX0 7).2.1 (TX0 7).2.2.1 "Entitled" ∈ lw_tbl := tb (List.mem_of_getElem? (i := 87) (by decide +kernel))
theorem ml_X2_118 : Cond.methodLinkNest RX2 118 yX0_countRights "Entitled" ∈ lw_tbl := tb (List.mem_of_getElem? (i := 434) (by decide +kernel))
theorem fl_X2_122 : Cond.fieldLinkNest RX2 122 RX0 (TX0 8).2.1 (TX0 8).2.2.1 "Entitled" ∈ lw_tbl := tb (List.mem_of_getElem? (i := 89) (by decide +kernel))
theorem fl_X2_125 : Cond.fieldLinkNest RX2 125 RX0 (TX0 9).2.1 (TX0 9).2.2.1 "Entitled" ∈ lw_tbl := tb (List.mem_of_getElem? (i := 91) (by decide +kernel))
theorem fl_X2_128 : Cond.fieldLinkNest RX2 128 RX0 (TX0 10).2.1 (TX0 10).2.2.1 "Entitled" ∈ lw_tbl := tb (List.mem_of_getElem? (i := 93) (by decide +kernel))
theorem fl_X2_89 : Cond.fieldLinkNest RX2 89 RX1 (TX1 2).2.1 (TX1 2).2.2.1 "Entitled" ∈ lw_tbl := tb (List.mem_of_getElem? (i := 36) (by decide +kernel))
theorem fl_X2_92 : Cond.fieldLinkNest RX2 92 RX1 (TX1 3).2.1 (TX1 3).2.2.1 "Entitled" ∈ lw_tbl := tb (List.mem_of_getElem? (i := 40) (by decide +kernel))
theorem ml_X2_212 : Cond.methodLink RX2 212 yX2_used ∈ lw_tbl := tb (List.mem_of_getElem? (i := 590) (by decide +kernel))
theorem fl_X2_230 : Cond.fieldLink RX2 230 RX2 (TX2 5).2.1 (TX2 5).2.2.1 ∈ lw_tbl := tb (List.mem_of_getElem? (i := 130) (by decide +kernel))
theorem ml_X2_281 : Cond.methodLinkNest RX2 281 yX0_release "Entitled" ∈ lw_tbl := tb (List.mem_of_getElem? (i := 237) (by decide +kernel))
theorem ml_X2_209 : Cond.methodLink RX2 209 yX2_serveByBest ∈ lw_tbl := tb (List.mem_of_getElem? (i := 579) (by decide +kernel))
theorem ml_X2_268 : Cond.methodLink RX2 268 yX2_countGiven ∈ lw_tbl := tb (List.mem_of_getElem? (i := 544) (by decide +kernel))
theorem ml_X2_271 : Cond.methodLink RX2 271 yX2_isAllowed ∈ lw_tbl := tb (List.mem_of_getElem? (i := 548) (by decide +kernel))
theorem ml_X2_275 : Cond.methodLink RX2 275 yX2_sumOfMissing ∈ lw_tbl := tb (List.mem_of_getElem? (i := 626) (by decide +kernel))
theorem fl_X2_181 : Cond.fieldLinkNest RX2 181 RX0 (TX0 12).2.1 (TX0 12).2.2.1 "Entitled" ∈ lw_tbl := tb (List.mem_of_getElem? (i := 96) (by decide +kernel))
theorem ml_X2_157 : Cond.methodLinkNest RX2 157 yX0_misfit "Entitled" ∈ lw_tbl := tb (List.mem_of_getElem? (i := 494) (by decide +kernel))
theorem ml_X3_106 : Cond.methodLink RX3 106 yX3_noEntitlement ∈ lw_tbl := tb (List.mem_of_getElem? (i := 797) (by decide +kernel))
theorem ml_X3_89 : Cond.methodLink RX3 89 yX3_isIn ∈ lw_tbl := tb (List.mem_of_getElem? (i := 753) (by decide +kernel))
theorem ml_X3_93 : Cond.methodLink RX3 93 yX3_fail ∈ lw_tbl := tb (List.mem_of_getElem? (i := 756) (by decide +kernel))
theorem fl_X3_53 : Cond.fieldLink RX3 53 RX3 (TX3 20).2.1 (TX3 20).2.2.1 ∈ lw_tbl := tb (List.mem_of_getElem? (i := 678) (by decide +kernel))
theorem fl_X3_129 : Cond.fieldLink RX3 129 RX3 (TX3 4).2.1 (TX3 4).2.2.1 ∈ lw_tbl := tb (List.mem_of_getElem? (i := 662) (by decide +kernel))
theorem fl_X3_100 : Cond.fieldLink RX3 100 RX3 (TX3 1).2.1 (TX3 1).2.2.1 ∈ lw_tbl := tb (List.mem_of_getElem? (i := 659) (by decide +kernel))
theorem fl_X3_69 : Cond.fieldLink RX3 69 RX3 (TX3 25).2.1 (TX3 25).2.2.1 ∈ lw_tbl := tb (List.mem_of_getElem? (i := 683) (by decide +kernel))
theorem ml_X3_126 : Cond.methodLink RX3 126 yX3_needs ∈ lw_tbl := tb (List.mem_of_getElem? (i := 848) (by decide +kernel))
theorem ml_X3_158 : Cond.methodLink RX3 158 yX3_costs ∈ lw_tbl := tb (List.mem_of_getElem? (i := 917) (by decide +kernel))
theorem ml_X3_132 : Cond.methodLink RX3 132 yX3_take ∈ lw_tbl := tb (List.mem_of_getElem? (i := 872) (by decide +kernel))
theorem fl_X3_31 : Cond.fieldLink RX3 31 RX3 (TX3 13).2.1 (TX3 13).2.2.1 ∈ lw_tbl := tb (List.mem_of_getElem? (i := 671) (by decide +kernel))
theorem ml_X3_161 : Cond.methodLink RX3 161 yX3_buys ∈ lw_tbl := tb (List.mem_of_getElem? (i := 913) (by decide +kernel))
theorem fl_X3_86 : Cond.fieldLink RX3 86 RX3 (TX3 3).2.1 (TX3 3).2.2.1 ∈ lw_tbl := tb (List.mem_of_getElem? (i := 661) (by decide +kernel))
theorem ml_X3_117 : Cond.methodLink RX3 117 yX3_fits ∈ lw_tbl := tb (List.mem_of_getElem? (i := 836) (by decide +kernel))
theorem fl_X3_62 : Cond.fieldLink RX3 62 RX3 (TX3 23).2.1 (TX3 23).2.2.1 ∈ lw_tbl := tb (List.mem_of_getElem? (i := 681) (by decide +kernel))
theorem ml_X3_155 : Cond.methodLink RX3 155 yX3_beyond ∈ lw_tbl := tb (List.mem_of_getElem? (i := 921) (by decide +kernel))
theorem ml_X3_142 : Cond.methodLink RX3 142 yX3_begin ∈ lw_tbl := tb (List.mem_of_getElem? (i := 864) (by decide +kernel))
theorem fl_X3_97 : Cond.fieldLink RX3 97 RX3 (TX3 2).2.1 (TX3 2).2.2.1 ∈ lw_tbl := tb (List.mem_of_getElem? (i := 660) (by decide +kernel))
theorem ml_X3_135 : Cond.methodLink RX3 135 yX3_covers ∈ lw_tbl := tb (List.mem_of_getElem? (i := 868) (by decide +kernel))
theorem ml_X3_145 : Cond.methodLink RX3 145 yX3_put ∈ lw_tbl := tb (List.mem_of_getElem? (i := 880) (by decide +kernel))
theorem fl_X3_78 : Cond.fieldLink RX3 78 RX3 (TX3 0).2.1 (TX3 0).2.2.1 ∈ lw_tbl := tb (List.mem_of_getElem? (i := 658) (by decide +kernel))
theorem ml_X3_148 : Cond.methodLink RX3 148 yX3_cover ∈ lw_tbl := tb (List.mem_of_getElem? (i := 860) (by decide +kernel))
theorem ml_X3_151 : Cond.methodLink RX3 151 yX3_covered ∈ lw_tbl := tb (List.mem_of_getElem? (i := 888) (by decide +kernel))
theorem ml_X3_139 : Cond.methodLink RX3 139 yX3_isAllowed ∈ lw_tbl := tb (List.mem_of_getElem? (i := 876) (by decide +kernel))
theorem fl_X3_44 : Cond.fieldLink RX3 44 RX3 (TX3 17).2.1 (TX3 17).2.2.1 ∈ lw_tbl := tb (List.mem_of_getElem? (i := 675) (by decide +kernel))
theorem fl_X3_47 : Cond.fieldLink RX3 47 RX3 (TX3 18).2.1 (TX3 18).2.2.1 ∈ lw_tbl := tb (List.mem_of_getElem? (i := 676) (by decide +kernel))
theorem fl_X3_50 : Cond.fieldLink RX3 50 RX3 (TX3 19).2.1 (TX3 19).2.2.1 ∈ lw_tbl := tb (List.mem_of_getElem? (i := 677) (by decide +kernel))
theorem fl_X3_65 : Cond.fieldLink RX3 65 RX3 (TX3 24).2.1 (TX3 24).2.2.1 ∈ lw_tbl := tb (List.mem_of_getElem? (i := 682) (by decide +kernel))
theorem fl_X3_56 : Cond.fieldLink RX3 56 RX3 (TX3 21).2.1 (TX3 21).2.2.1 ∈ lw_tbl := tb (List.mem_of_getElem? (i := 679) (by decide +kernel))
theorem fl_X3_59 : Cond.fieldLink RX3 59 RX3 (TX3 22).2.1 (TX3 22).2.2.1 ∈ lw_tbl := tb (List.mem_of_getElem? (i := 680) (by decide +kernel))
theorem ml_X3_103 : Cond.methodLink RX3 103 yX3_noInstall ∈ lw_tbl := tb (List.mem_of_getElem? (i := 764) (by decide +kernel))
theorem ml_X3_113 : Cond.methodLink RX3 113 yX3_reasonOf ∈ lw_tbl := tb (List.mem_of_getElem? (i := 821) (by decide +kernel))
theorem ml_X3_120 : Cond.methodLink RX3 120 yX3_fits_ ∈ lw_tbl := tb (List.mem_of_getElem? (i := 832) (by decide +kernel))
theorem fl_X3_75 : Cond.fieldLink RX3 75 RX3 (TX3 27).2.1 (TX3 27).2.2.1 ∈ lw_tbl := tb (List.mem_of_getElem? (i := 685) (by decide +kernel))
theorem fl_X3_22 : Cond.fieldLink RX3 22 RX3 (TX3 10).2.1 (TX3 10).2.2.1 ∈ lw_tbl := tb (List.mem_of_getElem? (i := 668) (by decide +kernel))
theorem fl_X3_19 : Cond.fieldLink RX3 19 RX3 (TX3 9).2.1 (TX3 9).2.2.1 ∈ lw_tbl := tb (List.mem_of_getElem? (i := 667) (by decide +kernel))
theorem fl_X3_7 : Cond.fieldLink RX3 7 RX3 (TX3 6).2.1 (TX3 6).2.2.1 ∈ lw_tbl := tb (List.mem_of_getElem? (i := 664) (by decide +kernel))
theorem fl_X3_13 : Cond.fieldLink RX3 13 RX3 (TX3 7).2.1 (TX3 7).2.2.1 ∈ lw_tbl := tb (List.mem_of_getElem? (i := 665) (by decide +kernel))
theorem fl_X3_16 : Cond.fieldLink RX3 16 RX3 (TX3 8).2.1 (TX3 8).2.2.1 ∈ lw_tbl := tb (List.mem_of_getElem? (i := 666) (by decide +kernel))
theorem fl_X3_25 : Cond.fieldLink RX3 25 RX3 (TX3 11).2.1 (TX3 11).2.2.1 ∈ lw_tbl := tb (List.mem_of_getElem? (i := 669) (by decide +kernel))
theorem fl_X3_28 : Cond.fieldLink RX3 28 RX3 (TX3 12).2.1 (TX3 12).2.2.1 ∈ lw_tbl := tb (List.mem_of_getElem? (i := 670) (by decide +kernel))
theorem fl_X3_35 : Cond.fieldLink RX3 35 RX3 (TX3 14).2.1 (TX3 14).2.2.1 ∈ lw_tbl := tb (List.mem_of_getElem? (i := 672) (by decide +kernel))
theorem fl_X3_38 : Cond.fieldLink RX3 38 RX3 (TX3 15).2.1 (TX3 15).2.2.1 ∈ lw_tbl := tb (List.mem_of_getElem? (i := 673) (by decide +kernel))
theorem fl_X3_41 : Cond.fieldLink RX3 41 RX3 (TX3 16).2.1 (TX3 16).2.2.1 ∈ lw_tbl := tb (List.mem_of_getElem? (i := 674) (by decide +kernel))
theorem fl_X3_72 : Cond.fieldLink RX3 72 RX3 (TX3 26).2.1 (TX3 26).2.2.1 ∈ lw_tbl := tb (List.mem_of_getElem? (i := 684) (by decide +kernel))
theorem ml_X3_122 : Cond.methodLink RX3 122 yX3_greatest ∈ lw_tbl := tb (List.mem_of_getElem? (i := 852) (by decide +kernel))
theorem ml_X3_82 : Cond.methodLink RX3 82 yX3_isThere ∈ lw_tbl := tb (List.mem_of_getElem? (i := 768) (by decide +kernel))
theorem ml_X3_165 : Cond.methodLink RX3 165 yX3_noPurchase ∈ lw_tbl := tb (List.mem_of_getElem? (i := 909) (by decide +kernel))
theorem ml_X3_109 : Cond.methodLink RX3 109 yX3_isSet ∈ lw_tbl := tb (List.mem_of_getElem? (i := 825) (by decide +kernel))
theorem fl_X3_168 : Cond.fieldLink RX3 168 RX3 (TX3 5).2.1 (TX3 5).2.2.1 ∈ lw_tbl := tb (List.mem_of_getElem? (i := 663) (by decide +kernel))
theorem mw_X0_changeNeed : MWb yX0_changeNeed cX0_changeNeed 5 none 2 := ⟨tb (List.mem_of_getElem? (i := 220) (by decide +kernel)), tb (List.mem_of_getElem? (i := 3) (by decide +kernel)), ⟨by decide +kernel, by decide +kernel⟩, by decide +kernel, by decide, by decide +kernel⟩
theorem mw_X0_clearNeed : MWb yX0_clearNeed cX0_clearNeed 2 none 0 := ⟨tb (List.mem_of_getElem? (i := 186) (by decide +kernel)), tb (List.mem_of_getElem? (i := 3) (by decide +kernel)), ⟨by decide +kernel, by decide +kernel⟩, by decide +kernel, by decide, by decide +kernel⟩
theorem mw_X0_countRights : MWb yX0_countRights cX0_countRights 1 (some .int) 0 := ⟨tb (List.mem_of_getElem? (i := 437) (by decide +kernel)), tb (List.mem_of_getElem? (i := 3) (by decide +kernel)), ⟨by decide +kernel, by decide +kernel⟩, by decide +kernel, by decide, by decide +kernel⟩
theorem mw_X0_fill : MWb yX0_fill cX0_fill 7 none 6 := ⟨tb (List.mem_of_getElem? (i := 421) (by decide +kernel)), tb (List.mem_of_getElem? (i := 3) (by decide +kernel)), ⟨by decide +kernel, by decide +kernel⟩, by decide +kernel, by decide, by decide +kernel⟩
theorem mw_X0_fits : MWb yX0_fits cX0_fits 2 (some .boolean) 1 := ⟨tb (List.mem_of_getElem? (i := 194) (by decide +kernel)), tb (List.mem_of_getElem? (i := 3) (by decide +kernel)), ⟨by decide +kernel, by decide +kernel⟩, by decide +kernel, by decide, by decide +kernel⟩
theorem mw_X0_init : MWb yX0_init cX0_init 1 none 0 := ⟨tb (List.mem_of_getElem? (i := 74) (by decide +kernel)), tb (List.mem_of_getElem? (i := 3) (by decide +kernel)), ⟨by decide +kernel, by decide +kernel⟩, by decide +kernel, by decide, by decide +kernel⟩
theorem mw_X0_misfit : MWb yX0_misfit cX0_misfit 2 (some .char) 1 := ⟨tb (List.mem_of_getElem? (i := 198) (by decide +kernel)), tb (List.mem_of_getElem? (i := 3) (by decide +kernel)), ⟨by decide +kernel, by decide +kernel⟩, by decide +kernel, by decide, by decide +kernel⟩
theorem mw_X0_missing : MWb yX0_missing cX0_missing 1 (some .int) 0 := ⟨tb (List.mem_of_getElem? (i := 232) (by decide +kernel)), tb (List.mem_of_getElem? (i := 3) (by decide +kernel)), ⟨by decide +kernel, by decide +kernel⟩, by decide +kernel, by decide, by decide +kernel⟩
theorem mw_X0_missingPrice : MWb yX0_missingPrice cX0_missingPrice 1 (some .int) 0 := ⟨tb (List.mem_of_getElem? (i := 614) (by decide +kernel)), tb (List.mem_of_getElem? (i := 3) (by decide +kernel)), ⟨by decide +kernel, by decide +kernel⟩, by decide +kernel, by decide, by decide +kernel⟩
theorem mw_X0_release : MWb yX0_release cX0_release 2 none 1 := ⟨tb (List.mem_of_getElem? (i := 240) (by decide +kernel)), tb (List.mem_of_getElem? (i := 3) (by decide +kernel)), ⟨by decide +kernel, by decide +kernel⟩, by decide +kernel, by decide, by decide +kernel⟩
theorem mw_X0_serve : MWb yX0_serve cX0_serve 2 none 1 := ⟨tb (List.mem_of_getElem? (i := 216) (by decide +kernel)), tb (List.mem_of_getElem? (i := 3) (by decide +kernel)), ⟨by decide +kernel, by decide +kernel⟩, by decide +kernel, by decide, by decide +kernel⟩
theorem mw_X0_unitsOfHolder : MWb yX0_unitsOfHolder cX0_unitsOfHolder 4 (some .int) 1 := ⟨tb (List.mem_of_getElem? (i := 228) (by decide +kernel)), tb (List.mem_of_getElem? (i := 3) (by decide +kernel)), ⟨by decide +kernel, by decide +kernel⟩, by decide +kernel, by decide, by decide +kernel⟩
theorem mw_X1_fill : MWb yX1_fill cX1_fill 8 none 7 := ⟨tb (List.mem_of_getElem? (i := 352) (by decide +kernel)), tb (List.mem_of_getElem? (i := 2) (by decide +kernel)), ⟨by decide +kernel, by decide +kernel⟩, by decide +kernel, by decide, by decide +kernel⟩
theorem mw_X1_init : MWb yX1_init cX1_init 1 none 0 := ⟨tb (List.mem_of_getElem? (i := 28) (by decide +kernel)), tb (List.mem_of_getElem? (i := 2) (by decide +kernel)), ⟨by decide +kernel, by decide +kernel⟩, by decide +kernel, by decide, by decide +kernel⟩
theorem mw_X2_addUnits : MWb yX2_addUnits cX2_addUnits 4 (some .int) 2 := ⟨tb (List.mem_of_getElem? (i := 477) (by decide +kernel)), tb (List.mem_of_getElem? (i := 1) (by decide +kernel)), ⟨by decide +kernel, by decide +kernel⟩, by decide +kernel, by decide, by decide +kernel⟩
theorem mw_X2_checkAllCanBeCovered : MWb yX2_checkAllCanBeCovered cX2_checkAllCanBeCovered 2 none 0 := ⟨tb (List.mem_of_getElem? (i := 601) (by decide +kernel)), tb (List.mem_of_getElem? (i := 1) (by decide +kernel)), ⟨by decide +kernel, by decide +kernel⟩, by decide +kernel, by decide, by decide +kernel⟩
theorem mw_X2_clearNeeds : MWb yX2_clearNeeds cX2_clearNeeds 2 none 0 := ⟨tb (List.mem_of_getElem? (i := 182) (by decide +kernel)), tb (List.mem_of_getElem? (i := 1) (by decide +kernel)), ⟨by decide +kernel, by decide +kernel⟩, by decide +kernel, by decide, by decide +kernel⟩
theorem mw_X2_clearSearch : MWb yX2_clearSearch cX2_clearSearch 3 none 1 := ⟨tb (List.mem_of_getElem? (i := 178) (by decide +kernel)), tb (List.mem_of_getElem? (i := 1) (by decide +kernel)), ⟨by decide +kernel, by decide +kernel⟩, by decide +kernel, by decide, by decide +kernel⟩
theorem mw_X2_countFitting : MWb yX2_countFitting cX2_countFitting 4 (some .int) 1 := ⟨tb (List.mem_of_getElem? (i := 190) (by decide +kernel)), tb (List.mem_of_getElem? (i := 1) (by decide +kernel)), ⟨by decide +kernel, by decide +kernel⟩, by decide +kernel, by decide, by decide +kernel⟩
theorem mw_X2_countGiven : MWb yX2_countGiven cX2_countGiven 3 (some .int) 0 := ⟨tb (List.mem_of_getElem? (i := 547) (by decide +kernel)), tb (List.mem_of_getElem? (i := 1) (by decide +kernel)), ⟨by decide +kernel, by decide +kernel⟩, by decide +kernel, by decide, by decide +kernel⟩
theorem mw_X2_coverage : MWb yX2_coverage cX2_coverage 1 (some .float) 0 := ⟨tb (List.mem_of_getElem? (i := 650) (by decide +kernel)), tb (List.mem_of_getElem? (i := 1) (by decide +kernel)), ⟨by decide +kernel, by decide +kernel⟩, by decide +kernel, by decide, by decide +kernel⟩
theorem mw_X2_covered : MWb yX2_covered cX2_covered 1 (some .int) 0 := ⟨tb (List.mem_of_getElem? (i := 170) (by decide +kernel)), tb (List.mem_of_getElem? (i := 1) (by decide +kernel)), ⟨by decide +kernel, by decide +kernel⟩, by decide +kernel, by decide, by decide +kernel⟩
theorem mw_X2_coveredByTrying : MWb yX2_coveredByTrying cX2_coveredByTrying 1 (some .int) 0 := ⟨tb (List.mem_of_getElem? (i := 539) (by decide +kernel)), tb (List.mem_of_getElem? (i := 1) (by decide +kernel)), ⟨by decide +kernel, by decide +kernel⟩, by decide +kernel, by decide, by decide +kernel⟩
theorem mw_X2_entitle : MWb yX2_entitle cX2_entitle 8 (some .int) 6 := ⟨tb (List.mem_of_getElem? (i := 412) (by decide +kernel)), tb (List.mem_of_getElem? (i := 1) (by decide +kernel)), ⟨by decide +kernel, by decide +kernel⟩, by decide +kernel, by decide, by decide +kernel⟩
theorem mw_X2_entitlementAt : MWb yX2_entitlementAt cX2_entitlementAt 2 (some (.object "Entitled$Entitlement")) 1 := ⟨tb (List.mem_of_getElem? (i := 432) (by decide +kernel)), tb (List.mem_of_getElem? (i := 1) (by decide +kernel)), ⟨by decide +kernel, by decide +kernel⟩, by decide +kernel, by decide, by decide +kernel⟩
theorem mw_X2_entitlementByCover : MWb yX2_entitlementByCover cX2_entitlementByCover 2 (some .int) 1 := ⟨tb (List.mem_of_getElem? (i := 562) (by decide +kernel)), tb (List.mem_of_getElem? (i := 1) (by decide +kernel)), ⟨by decide +kernel, by decide +kernel⟩, by decide +kernel, by decide, by decide +kernel⟩
theorem mw_X2_entitlementOf : MWb yX2_entitlementOf cX2_entitlementOf 3 (some .int) 1 := ⟨tb (List.mem_of_getElem? (i := 558) (by decide +kernel)), tb (List.mem_of_getElem? (i := 1) (by decide +kernel)), ⟨by decide +kernel, by decide +kernel⟩, by decide +kernel, by decide, by decide +kernel⟩
theorem mw_X2_findCover : MWb yX2_findCover cX2_findCover 2 (some .int) 0 := ⟨tb (List.mem_of_getElem? (i := 174) (by decide +kernel)), tb (List.mem_of_getElem? (i := 1) (by decide +kernel)), ⟨by decide +kernel, by decide +kernel⟩, by decide +kernel, by decide, by decide +kernel⟩
theorem mw_X2_findPurchase : MWb yX2_findPurchase cX2_findPurchase 1 (some .int) 0 := ⟨tb (List.mem_of_getElem? (i := 606) (by decide +kernel)), tb (List.mem_of_getElem? (i := 1) (by decide +kernel)), ⟨by decide +kernel, by decide +kernel⟩, by decide +kernel, by decide, by decide +kernel⟩
theorem mw_X2_firstFitting : MWb yX2_firstFitting cX2_firstFitting 4 (some .int) 1 := ⟨tb (List.mem_of_getElem? (i := 509) (by decide +kernel)), tb (List.mem_of_getElem? (i := 1) (by decide +kernel)), ⟨by decide +kernel, by decide +kernel⟩, by decide +kernel, by decide, by decide +kernel⟩
theorem mw_X2_fitting : MWb yX2_fitting cX2_fitting 2 (some .int) 1 := ⟨tb (List.mem_of_getElem? (i := 501) (by decide +kernel)), tb (List.mem_of_getElem? (i := 1) (by decide +kernel)), ⟨by decide +kernel, by decide +kernel⟩, by decide +kernel, by decide, by decide +kernel⟩
theorem mw_X2_give : MWb yX2_give cX2_give 3 none 2 := ⟨tb (List.mem_of_getElem? (i := 212) (by decide +kernel)), tb (List.mem_of_getElem? (i := 1) (by decide +kernel)), ⟨by decide +kernel, by decide +kernel⟩, by decide +kernel, by decide, by decide +kernel⟩
theorem mw_X2_init : MWb yX2_init cX2_init 2 none 0 := ⟨tb (List.mem_of_getElem? (i := 19) (by decide +kernel)), tb (List.mem_of_getElem? (i := 1) (by decide +kernel)), ⟨by decide +kernel, by decide +kernel⟩, by decide +kernel, by decide, by decide +kernel⟩
theorem mw_X2_install : MWb yX2_install cX2_install 9 (some .int) 7 := ⟨tb (List.mem_of_getElem? (i := 253) (by decide +kernel)), tb (List.mem_of_getElem? (i := 1) (by decide +kernel)), ⟨by decide +kernel, by decide +kernel⟩, by decide +kernel, by decide, by decide +kernel⟩
theorem mw_X2_installAt : MWb yX2_installAt cX2_installAt 2 (some (.object "Entitled$Install")) 1 := ⟨tb (List.mem_of_getElem? (i := 364) (by decide +kernel)), tb (List.mem_of_getElem? (i := 1) (by decide +kernel)), ⟨by decide +kernel, by decide +kernel⟩, by decide +kernel, by decide, by decide +kernel⟩
theorem mw_X2_installs : MWb yX2_installs cX2_installs 1 (some .int) 0 := ⟨tb (List.mem_of_getElem? (i := 159) (by decide +kernel)), tb (List.mem_of_getElem? (i := 1) (by decide +kernel)), ⟨by decide +kernel, by decide +kernel⟩, by decide +kernel, by decide, by decide +kernel⟩
theorem mw_X2_isAllowed : MWb yX2_isAllowed cX2_isAllowed 2 (some .boolean) 0 := ⟨tb (List.mem_of_getElem? (i := 551) (by decide +kernel)), tb (List.mem_of_getElem? (i := 1) (by decide +kernel)), ⟨by decide +kernel, by decide +kernel⟩, by decide +kernel, by decide, by decide +kernel⟩
theorem mw_X2_isBetween : MWb yX2_isBetween cX2_isBetween 3 (some .boolean) 3 := ⟨tb (List.mem_of_getElem? (i := 166) (by decide +kernel)), tb (List.mem_of_getElem? (i := 1) (by decide +kernel)), ⟨by decide +kernel, by decide +kernel⟩, by decide +kernel, by decide, by decide +kernel⟩
theorem mw_X2_isHolder : MWb yX2_isHolder cX2_isHolder 1 (some .boolean) 1 := ⟨tb (List.mem_of_getElem? (i := 259) (by decide +kernel)), tb (List.mem_of_getElem? (i := 1) (by decide +kernel)), ⟨by decide +kernel, by decide +kernel⟩, by decide +kernel, by decide, by decide +kernel⟩
theorem mw_X2_isMetric : MWb yX2_isMetric cX2_isMetric 1 (some .boolean) 1 := ⟨tb (List.mem_of_getElem? (i := 415) (by decide +kernel)), tb (List.mem_of_getElem? (i := 1) (by decide +kernel)), ⟨by decide +kernel, by decide +kernel⟩, by decide +kernel, by decide, by decide +kernel⟩
theorem mw_X2_isPool : MWb yX2_isPool cX2_isPool 1 (some .boolean) 1 := ⟨tb (List.mem_of_getElem? (i := 262) (by decide +kernel)), tb (List.mem_of_getElem? (i := 1) (by decide +kernel)), ⟨by decide +kernel, by decide +kernel⟩, by decide +kernel, by decide, by decide +kernel⟩
theorem mw_X2_isRelease : MWb yX2_isRelease cX2_isRelease 2 (some .boolean) 2 := ⟨tb (List.mem_of_getElem? (i := 256) (by decide +kernel)), tb (List.mem_of_getElem? (i := 1) (by decide +kernel)), ⟨by decide +kernel, by decide +kernel⟩, by decide +kernel, by decide, by decide +kernel⟩
theorem mw_X2_isThere : MWb yX2_isThere cX2_isThere 2 (some .boolean) 1 := ⟨tb (List.mem_of_getElem? (i := 163) (by decide +kernel)), tb (List.mem_of_getElem? (i := 1) (by decide +kernel)), ⟨by decide +kernel, by decide +kernel⟩, by decide +kernel, by decide, by decide +kernel⟩
theorem mw_X2_keepAsBest : MWb yX2_keepAsBest cX2_keepAsBest 2 none 1 := ⟨tb (List.mem_of_getElem? (i := 205) (by decide +kernel)), tb (List.mem_of_getElem? (i := 1) (by decide +kernel)), ⟨by decide +kernel, by decide +kernel⟩, by decide +kernel, by decide, by decide +kernel⟩
theorem mw_X2_moveTo : MWb yX2_moveTo cX2_moveTo 6 (some .int) 3 := ⟨tb (List.mem_of_getElem? (i := 388) (by decide +kernel)), tb (List.mem_of_getElem? (i := 1) (by decide +kernel)), ⟨by decide +kernel, by decide +kernel⟩, by decide +kernel, by decide, by decide +kernel⟩
theorem mw_X2_purchase : MWb yX2_purchase cX2_purchase 1 (some .int) 0 := ⟨tb (List.mem_of_getElem? (i := 597) (by decide +kernel)), tb (List.mem_of_getElem? (i := 1) (by decide +kernel)), ⟨by decide +kernel, by decide +kernel⟩, by decide +kernel, by decide, by decide +kernel⟩
theorem mw_X2_purchaseByTrying : MWb yX2_purchaseByTrying cX2_purchaseByTrying 1 (some .int) 0 := ⟨tb (List.mem_of_getElem? (i := 622) (by decide +kernel)), tb (List.mem_of_getElem? (i := 1) (by decide +kernel)), ⟨by decide +kernel, by decide +kernel⟩, by decide +kernel, by decide, by decide +kernel⟩
theorem mw_X2_reason : MWb yX2_reason cX2_reason 2 (some .char) 1 := ⟨tb (List.mem_of_getElem? (i := 570) (by decide +kernel)), tb (List.mem_of_getElem? (i := 1) (by decide +kernel)), ⟨by decide +kernel, by decide +kernel⟩, by decide +kernel, by decide, by decide +kernel⟩
theorem mw_X2_retire : MWb yX2_retire cX2_retire 2 (some .int) 1 := ⟨tb (List.mem_of_getElem? (i := 360) (by decide +kernel)), tb (List.mem_of_getElem? (i := 1) (by decide +kernel)), ⟨by decide +kernel, by decide +kernel⟩, by decide +kernel, by decide, by decide +kernel⟩
theorem mw_X2_searchCover : MWb yX2_searchCover cX2_searchCover 4 none 3 := ⟨tb (List.mem_of_getElem? (i := 201) (by decide +kernel)), tb (List.mem_of_getElem? (i := 1) (by decide +kernel)), ⟨by decide +kernel, by decide +kernel⟩, by decide +kernel, by decide, by decide +kernel⟩
theorem mw_X2_searchPurchase : MWb yX2_searchPurchase cX2_searchPurchase 6 none 3 := ⟨tb (List.mem_of_getElem? (i := 610) (by decide +kernel)), tb (List.mem_of_getElem? (i := 1) (by decide +kernel)), ⟨by decide +kernel, by decide +kernel⟩, by decide +kernel, by decide, by decide +kernel⟩
theorem mw_X2_serveByBest : MWb yX2_serveByBest cX2_serveByBest 2 none 0 := ⟨tb (List.mem_of_getElem? (i := 582) (by decide +kernel)), tb (List.mem_of_getElem? (i := 1) (by decide +kernel)), ⟨by decide +kernel, by decide +kernel⟩, by decide +kernel, by decide, by decide +kernel⟩
theorem mw_X2_setMinimum : MWb yX2_setMinimum cX2_setMinimum 5 (some .int) 2 := ⟨tb (List.mem_of_getElem? (i := 445) (by decide +kernel)), tb (List.mem_of_getElem? (i := 1) (by decide +kernel)), ⟨by decide +kernel, by decide +kernel⟩, by decide +kernel, by decide, by decide +kernel⟩
theorem mw_X2_setPool : MWb yX2_setPool cX2_setPool 5 (some .int) 2 := ⟨tb (List.mem_of_getElem? (i := 404) (by decide +kernel)), tb (List.mem_of_getElem? (i := 1) (by decide +kernel)), ⟨by decide +kernel, by decide +kernel⟩, by decide +kernel, by decide, by decide +kernel⟩
theorem mw_X2_setPrice : MWb yX2_setPrice cX2_setPrice 5 (some .int) 2 := ⟨tb (List.mem_of_getElem? (i := 469) (by decide +kernel)), tb (List.mem_of_getElem? (i := 1) (by decide +kernel)), ⟨by decide +kernel, by decide +kernel⟩, by decide +kernel, by decide, by decide +kernel⟩
theorem mw_X2_setRights : MWb yX2_setRights cX2_setRights 7 (some .int) 4 := ⟨tb (List.mem_of_getElem? (i := 428) (by decide +kernel)), tb (List.mem_of_getElem? (i := 1) (by decide +kernel)), ⟨by decide +kernel, by decide +kernel⟩, by decide +kernel, by decide, by decide +kernel⟩
theorem mw_X2_setVersion : MWb yX2_setVersion cX2_setVersion 6 (some .int) 3 := ⟨tb (List.mem_of_getElem? (i := 396) (by decide +kernel)), tb (List.mem_of_getElem? (i := 1) (by decide +kernel)), ⟨by decide +kernel, by decide +kernel⟩, by decide +kernel, by decide, by decide +kernel⟩
theorem mw_X2_spare : MWb yX2_spare cX2_spare 3 (some .int) 1 := ⟨tb (List.mem_of_getElem? (i := 589) (by decide +kernel)), tb (List.mem_of_getElem? (i := 1) (by decide +kernel)), ⟨by decide +kernel, by decide +kernel⟩, by decide +kernel, by decide, by decide +kernel⟩
theorem mw_X2_spent : MWb yX2_spent cX2_spent 1 (some .long) 0 := ⟨tb (List.mem_of_getElem? (i := 244) (by decide +kernel)), tb (List.mem_of_getElem? (i := 1) (by decide +kernel)), ⟨by decide +kernel, by decide +kernel⟩, by decide +kernel, by decide, by decide +kernel⟩
theorem mw_X2_sumOfMissing : MWb yX2_sumOfMissing cX2_sumOfMissing 3 (some .int) 0 := ⟨tb (List.mem_of_getElem? (i := 629) (by decide +kernel)), tb (List.mem_of_getElem? (i := 1) (by decide +kernel)), ⟨by decide +kernel, by decide +kernel⟩, by decide +kernel, by decide, by decide +kernel⟩
theorem mw_X2_takeBack : MWb yX2_takeBack cX2_takeBack 3 none 2 := ⟨tb (List.mem_of_getElem? (i := 236) (by decide +kernel)), tb (List.mem_of_getElem? (i := 1) (by decide +kernel)), ⟨by decide +kernel, by decide +kernel⟩, by decide +kernel, by decide, by decide +kernel⟩
theorem mw_X2_toBuy : MWb yX2_toBuy cX2_toBuy 3 (some .int) 1 := ⟨tb (List.mem_of_getElem? (i := 636) (by decide +kernel)), tb (List.mem_of_getElem? (i := 1) (by decide +kernel)), ⟨by decide +kernel, by decide +kernel⟩, by decide +kernel, by decide, by decide +kernel⟩
theorem mw_X2_trueUp : MWb yX2_trueUp cX2_trueUp 3 (some .int) 0 := ⟨tb (List.mem_of_getElem? (i := 643) (by decide +kernel)), tb (List.mem_of_getElem? (i := 1) (by decide +kernel)), ⟨by decide +kernel, by decide +kernel⟩, by decide +kernel, by decide, by decide +kernel⟩
theorem mw_X2_tryCovers : MWb yX2_tryCovers cX2_tryCovers 3 none 2 := ⟨tb (List.mem_of_getElem? (i := 543) (by decide +kernel)), tb (List.mem_of_getElem? (i := 1) (by decide +kernel)), ⟨by decide +kernel, by decide +kernel⟩, by decide +kernel, by decide, by decide +kernel⟩
theorem mw_X2_tryPurchases : MWb yX2_tryPurchases cX2_tryPurchases 3 none 2 := ⟨tb (List.mem_of_getElem? (i := 625) (by decide +kernel)), tb (List.mem_of_getElem? (i := 1) (by decide +kernel)), ⟨by decide +kernel, by decide +kernel⟩, by decide +kernel, by decide, by decide +kernel⟩
theorem mw_X2_units : MWb yX2_units cX2_units 2 (some .int) 1 := ⟨tb (List.mem_of_getElem? (i := 486) (by decide +kernel)), tb (List.mem_of_getElem? (i := 1) (by decide +kernel)), ⟨by decide +kernel, by decide +kernel⟩, by decide +kernel, by decide, by decide +kernel⟩
theorem mw_X2_unitsForAll : MWb yX2_unitsForAll cX2_unitsForAll 4 (some .int) 1 := ⟨tb (List.mem_of_getElem? (i := 532) (by decide +kernel)), tb (List.mem_of_getElem? (i := 1) (by decide +kernel)), ⟨by decide +kernel, by decide +kernel⟩, by decide +kernel, by decide, by decide +kernel⟩
theorem mw_X2_used : MWb yX2_used cX2_used 3 (some .int) 1 := ⟨tb (List.mem_of_getElem? (i := 578) (by decide +kernel)), tb (List.mem_of_getElem? (i := 1) (by decide +kernel)), ⟨by decide +kernel, by decide +kernel⟩, by decide +kernel, by decide, by decide +kernel⟩
theorem mw_X2_why : MWb yX2_why cX2_why 4 (some .char) 2 := ⟨tb (List.mem_of_getElem? (i := 493) (by decide +kernel)), tb (List.mem_of_getElem? (i := 1) (by decide +kernel)), ⟨by decide +kernel, by decide +kernel⟩, by decide +kernel, by decide, by decide +kernel⟩
theorem mw_X3_addUnits : MWb yX3_addUnits cX3_addUnits 3 (some .int) 2 := ⟨tb (List.mem_of_getElem? (i := 812) (by decide +kernel)), tb (List.mem_of_getElem? (i := 4) (by decide +kernel)), ⟨by decide +kernel, by decide +kernel⟩, by decide +kernel, by decide, by decide +kernel⟩
theorem mw_X3_begin : MWb yX3_begin cX3_begin 2 none 0 := ⟨tb (List.mem_of_getElem? (i := 867) (by decide +kernel)), tb (List.mem_of_getElem? (i := 4) (by decide +kernel)), ⟨by decide +kernel, by decide +kernel⟩, by decide +kernel, by decide, by decide +kernel⟩
theorem mw_X3_beyond : MWb yX3_beyond cX3_beyond 3 (some .int) 1 := ⟨tb (List.mem_of_getElem? (i := 924) (by decide +kernel)), tb (List.mem_of_getElem? (i := 4) (by decide +kernel)), ⟨by decide +kernel, by decide +kernel⟩, by decide +kernel, by decide, by decide +kernel⟩
theorem mw_X3_buys : MWb yX3_buys cX3_buys 4 none 1 := ⟨tb (List.mem_of_getElem? (i := 916) (by decide +kernel)), tb (List.mem_of_getElem? (i := 4) (by decide +kernel)), ⟨by decide +kernel, by decide +kernel⟩, by decide +kernel, by decide, by decide +kernel⟩
theorem mw_X3_costs : MWb yX3_costs cX3_costs 3 (some .int) 0 := ⟨tb (List.mem_of_getElem? (i := 920) (by decide +kernel)), tb (List.mem_of_getElem? (i := 4) (by decide +kernel)), ⟨by decide +kernel, by decide +kernel⟩, by decide +kernel, by decide, by decide +kernel⟩
theorem mw_X3_cover : MWb yX3_cover cX3_cover 1 none 0 := ⟨tb (List.mem_of_getElem? (i := 863) (by decide +kernel)), tb (List.mem_of_getElem? (i := 4) (by decide +kernel)), ⟨by decide +kernel, by decide +kernel⟩, by decide +kernel, by decide, by decide +kernel⟩
theorem mw_X3_coverage : MWb yX3_coverage cX3_coverage 1 (some .float) 0 := ⟨tb (List.mem_of_getElem? (i := 944) (by decide +kernel)), tb (List.mem_of_getElem? (i := 4) (by decide +kernel)), ⟨by decide +kernel, by decide +kernel⟩, by decide +kernel, by decide, by decide +kernel⟩
theorem mw_X3_covered : MWb yX3_covered cX3_covered 1 (some .int) 0 := ⟨tb (List.mem_of_getElem? (i := 859) (by decide +kernel)), tb (List.mem_of_getElem? (i := 4) (by decide +kernel)), ⟨by decide +kernel, by decide +kernel⟩, by decide +kernel, by decide, by decide +kernel⟩
theorem mw_X3_coveredByTrying : MWb yX3_coveredByTrying cX3_coveredByTrying 1 (some .int) 0 := ⟨tb (List.mem_of_getElem? (i := 887) (by decide +kernel)), tb (List.mem_of_getElem? (i := 4) (by decide +kernel)), ⟨by decide +kernel, by decide +kernel⟩, by decide +kernel, by decide, by decide +kernel⟩
theorem mw_X3_covers : MWb yX3_covers cX3_covers 5 none 3 := ⟨tb (List.mem_of_getElem? (i := 871) (by decide +kernel)), tb (List.mem_of_getElem? (i := 4) (by decide +kernel)), ⟨by decide +kernel, by decide +kernel⟩, by decide +kernel, by decide, by decide +kernel⟩
theorem mw_X3_entitle : MWb yX3_entitle cX3_entitle 7 (some .int) 6 := ⟨tb (List.mem_of_getElem? (i := 792) (by decide +kernel)), tb (List.mem_of_getElem? (i := 4) (by decide +kernel)), ⟨by decide +kernel, by decide +kernel⟩, by decide +kernel, by decide, by decide +kernel⟩
theorem mw_X3_entitlementOf : MWb yX3_entitlementOf cX3_entitlementOf 2 (some .int) 1 := ⟨tb (List.mem_of_getElem? (i := 892) (by decide +kernel)), tb (List.mem_of_getElem? (i := 4) (by decide +kernel)), ⟨by decide +kernel, by decide +kernel⟩, by decide +kernel, by decide, by decide +kernel⟩
theorem mw_X3_fail : MWb yX3_fail cX3_fail 2 (some .int) 1 := ⟨tb (List.mem_of_getElem? (i := 759) (by decide +kernel)), tb (List.mem_of_getElem? (i := 4) (by decide +kernel)), ⟨by decide +kernel, by decide +kernel⟩, by decide +kernel, by decide, by decide +kernel⟩
theorem mw_X3_firstFitting : MWb yX3_firstFitting cX3_firstFitting 3 (some .int) 1 := ⟨tb (List.mem_of_getElem? (i := 843) (by decide +kernel)), tb (List.mem_of_getElem? (i := 4) (by decide +kernel)), ⟨by decide +kernel, by decide +kernel⟩, by decide +kernel, by decide, by decide +kernel⟩
theorem mw_X3_fits : MWb yX3_fits cX3_fits 3 (some .boolean) 2 := ⟨tb (List.mem_of_getElem? (i := 839) (by decide +kernel)), tb (List.mem_of_getElem? (i := 4) (by decide +kernel)), ⟨by decide +kernel, by decide +kernel⟩, by decide +kernel, by decide, by decide +kernel⟩
theorem mw_X3_fits_ : MWb yX3_fits_ cX3_fits_ 4 (some .int) 1 := ⟨tb (List.mem_of_getElem? (i := 835) (by decide +kernel)), tb (List.mem_of_getElem? (i := 4) (by decide +kernel)), ⟨by decide +kernel, by decide +kernel⟩, by decide +kernel, by decide, by decide +kernel⟩
theorem mw_X3_fitting : MWb yX3_fitting cX3_fitting 2 (some .int) 1 := ⟨tb (List.mem_of_getElem? (i := 831) (by decide +kernel)), tb (List.mem_of_getElem? (i := 4) (by decide +kernel)), ⟨by decide +kernel, by decide +kernel⟩, by decide +kernel, by decide, by decide +kernel⟩
theorem mw_X3_greatest : MWb yX3_greatest cX3_greatest 6 (some .int) 3 := ⟨tb (List.mem_of_getElem? (i := 855) (by decide +kernel)), tb (List.mem_of_getElem? (i := 4) (by decide +kernel)), ⟨by decide +kernel, by decide +kernel⟩, by decide +kernel, by decide, by decide +kernel⟩
theorem mw_X3_init : MWb yX3_init cX3_init 1 none 0 := ⟨tb (List.mem_of_getElem? (i := 656) (by decide +kernel)), tb (List.mem_of_getElem? (i := 4) (by decide +kernel)), ⟨by decide +kernel, by decide +kernel⟩, by decide +kernel, by decide, by decide +kernel⟩
theorem mw_X3_install : MWb yX3_install cX3_install 8 (some .int) 7 := ⟨tb (List.mem_of_getElem? (i := 752) (by decide +kernel)), tb (List.mem_of_getElem? (i := 4) (by decide +kernel)), ⟨by decide +kernel, by decide +kernel⟩, by decide +kernel, by decide, by decide +kernel⟩
theorem mw_X3_installs : MWb yX3_installs cX3_installs 1 (some .int) 0 := ⟨tb (List.mem_of_getElem? (i := 787) (by decide +kernel)), tb (List.mem_of_getElem? (i := 4) (by decide +kernel)), ⟨by decide +kernel, by decide +kernel⟩, by decide +kernel, by decide, by decide +kernel⟩
theorem mw_X3_isAllowed : MWb yX3_isAllowed cX3_isAllowed 2 (some .boolean) 1 := ⟨tb (List.mem_of_getElem? (i := 879) (by decide +kernel)), tb (List.mem_of_getElem? (i := 4) (by decide +kernel)), ⟨by decide +kernel, by decide +kernel⟩, by decide +kernel, by decide, by decide +kernel⟩
theorem mw_X3_isIn : MWb yX3_isIn cX3_isIn 3 (some .boolean) 3 := ⟨tb (List.mem_of_getElem? (i := 755) (by decide +kernel)), tb (List.mem_of_getElem? (i := 4) (by decide +kernel)), ⟨by decide +kernel, by decide +kernel⟩, by decide +kernel, by decide, by decide +kernel⟩
theorem mw_X3_isSet : MWb yX3_isSet cX3_isSet 4 (some .boolean) 2 := ⟨tb (List.mem_of_getElem? (i := 827) (by decide +kernel)), tb (List.mem_of_getElem? (i := 4) (by decide +kernel)), ⟨by decide +kernel, by decide +kernel⟩, by decide +kernel, by decide, by decide +kernel⟩
theorem mw_X3_isThere : MWb yX3_isThere cX3_isThere 2 (some .boolean) 1 := ⟨tb (List.mem_of_getElem? (i := 771) (by decide +kernel)), tb (List.mem_of_getElem? (i := 4) (by decide +kernel)), ⟨by decide +kernel, by decide +kernel⟩, by decide +kernel, by decide, by decide +kernel⟩
theorem mw_X3_moveTo : MWb yX3_moveTo cX3_moveTo 5 (some .int) 3 := ⟨tb (List.mem_of_getElem? (i := 775) (by decide +kernel)), tb (List.mem_of_getElem? (i := 4) (by decide +kernel)), ⟨by decide +kernel, by decide +kernel⟩, by decide +kernel, by decide, by decide +kernel⟩
theorem mw_X3_needs : MWb yX3_needs cX3_needs 5 (some .int) 1 := ⟨tb (List.mem_of_getElem? (i := 851) (by decide +kernel)), tb (List.mem_of_getElem? (i := 4) (by decide +kernel)), ⟨by decide +kernel, by decide +kernel⟩, by decide +kernel, by decide, by decide +kernel⟩
theorem mw_X3_noEntitlement : MWb yX3_noEntitlement cX3_noEntitlement 2 (some .boolean) 1 := ⟨tb (List.mem_of_getElem? (i := 800) (by decide +kernel)), tb (List.mem_of_getElem? (i := 4) (by decide +kernel)), ⟨by decide +kernel, by decide +kernel⟩, by decide +kernel, by decide, by decide +kernel⟩
theorem mw_X3_noInstall : MWb yX3_noInstall cX3_noInstall 2 (some .boolean) 1 := ⟨tb (List.mem_of_getElem? (i := 767) (by decide +kernel)), tb (List.mem_of_getElem? (i := 4) (by decide +kernel)), ⟨by decide +kernel, by decide +kernel⟩, by decide +kernel, by decide, by decide +kernel⟩
theorem mw_X3_noPurchase : MWb yX3_noPurchase cX3_noPurchase 3 (some .boolean) 1 := ⟨tb (List.mem_of_getElem? (i := 912) (by decide +kernel)), tb (List.mem_of_getElem? (i := 4) (by decide +kernel)), ⟨by decide +kernel, by decide +kernel⟩, by decide +kernel, by decide, by decide +kernel⟩
theorem mw_X3_purchase : MWb yX3_purchase cX3_purchase 1 (some .int) 0 := ⟨tb (List.mem_of_getElem? (i := 908) (by decide +kernel)), tb (List.mem_of_getElem? (i := 4) (by decide +kernel)), ⟨by decide +kernel, by decide +kernel⟩, by decide +kernel, by decide, by decide +kernel⟩
theorem mw_X3_purchaseByTrying : MWb yX3_purchaseByTrying cX3_purchaseByTrying 1 (some .int) 0 := ⟨tb (List.mem_of_getElem? (i := 928) (by decide +kernel)), tb (List.mem_of_getElem? (i := 4) (by decide +kernel)), ⟨by decide +kernel, by decide +kernel⟩, by decide +kernel, by decide, by decide +kernel⟩
theorem mw_X3_put : MWb yX3_put cX3_put 2 none 0 := ⟨tb (List.mem_of_getElem? (i := 883) (by decide +kernel)), tb (List.mem_of_getElem? (i := 4) (by decide +kernel)), ⟨by decide +kernel, by decide +kernel⟩, by decide +kernel, by decide, by decide +kernel⟩
theorem mw_X3_reason : MWb yX3_reason cX3_reason 2 (some .char) 1 := ⟨tb (List.mem_of_getElem? (i := 896) (by decide +kernel)), tb (List.mem_of_getElem? (i := 4) (by decide +kernel)), ⟨by decide +kernel, by decide +kernel⟩, by decide +kernel, by decide, by decide +kernel⟩
theorem mw_X3_reasonOf : MWb yX3_reasonOf cX3_reasonOf 3 (some .char) 2 := ⟨tb (List.mem_of_getElem? (i := 824) (by decide +kernel)), tb (List.mem_of_getElem? (i := 4) (by decide +kernel)), ⟨by decide +kernel, by decide +kernel⟩, by decide +kernel, by decide, by decide +kernel⟩
theorem mw_X3_retire : MWb yX3_retire cX3_retire 2 (some .int) 1 := ⟨tb (List.mem_of_getElem? (i := 763) (by decide +kernel)), tb (List.mem_of_getElem? (i := 4) (by decide +kernel)), ⟨by decide +kernel, by decide +kernel⟩, by decide +kernel, by decide, by decide +kernel⟩
theorem mw_X3_setMinimum : MWb yX3_setMinimum cX3_setMinimum 4 (some .int) 2 := ⟨tb (List.mem_of_getElem? (i := 804) (by decide +kernel)), tb (List.mem_of_getElem? (i := 4) (by decide +kernel)), ⟨by decide +kernel, by decide +kernel⟩, by decide +kernel, by decide, by decide +kernel⟩
theorem mw_X3_setPool : MWb yX3_setPool cX3_setPool 4 (some .int) 2 := ⟨tb (List.mem_of_getElem? (i := 783) (by decide +kernel)), tb (List.mem_of_getElem? (i := 4) (by decide +kernel)), ⟨by decide +kernel, by decide +kernel⟩, by decide +kernel, by decide, by decide +kernel⟩
theorem mw_X3_setPrice : MWb yX3_setPrice cX3_setPrice 4 (some .int) 2 := ⟨tb (List.mem_of_getElem? (i := 808) (by decide +kernel)), tb (List.mem_of_getElem? (i := 4) (by decide +kernel)), ⟨by decide +kernel, by decide +kernel⟩, by decide +kernel, by decide, by decide +kernel⟩
theorem mw_X3_setRights : MWb yX3_setRights cX3_setRights 6 (some .int) 4 := ⟨tb (List.mem_of_getElem? (i := 796) (by decide +kernel)), tb (List.mem_of_getElem? (i := 4) (by decide +kernel)), ⟨by decide +kernel, by decide +kernel⟩, by decide +kernel, by decide, by decide +kernel⟩
theorem mw_X3_setVersion : MWb yX3_setVersion cX3_setVersion 5 (some .int) 3 := ⟨tb (List.mem_of_getElem? (i := 779) (by decide +kernel)), tb (List.mem_of_getElem? (i := 4) (by decide +kernel)), ⟨by decide +kernel, by decide +kernel⟩, by decide +kernel, by decide, by decide +kernel⟩
theorem mw_X3_spare : MWb yX3_spare cX3_spare 2 (some .int) 1 := ⟨tb (List.mem_of_getElem? (i := 904) (by decide +kernel)), tb (List.mem_of_getElem? (i := 4) (by decide +kernel)), ⟨by decide +kernel, by decide +kernel⟩, by decide +kernel, by decide, by decide +kernel⟩
theorem mw_X3_spent : MWb yX3_spent cX3_spent 1 (some .long) 0 := ⟨tb (List.mem_of_getElem? (i := 940) (by decide +kernel)), tb (List.mem_of_getElem? (i := 4) (by decide +kernel)), ⟨by decide +kernel, by decide +kernel⟩, by decide +kernel, by decide, by decide +kernel⟩
theorem mw_X3_take : MWb yX3_take cX3_take 2 none 0 := ⟨tb (List.mem_of_getElem? (i := 875) (by decide +kernel)), tb (List.mem_of_getElem? (i := 4) (by decide +kernel)), ⟨by decide +kernel, by decide +kernel⟩, by decide +kernel, by decide, by decide +kernel⟩
theorem mw_X3_thrown : MWb yX3_thrown cX3_thrown 1 (some .int) 0 := ⟨tb (List.mem_of_getElem? (i := 748) (by decide +kernel)), tb (List.mem_of_getElem? (i := 4) (by decide +kernel)), ⟨by decide +kernel, by decide +kernel⟩, by decide +kernel, by decide, by decide +kernel⟩
theorem mw_X3_toBuy : MWb yX3_toBuy cX3_toBuy 2 (some .int) 1 := ⟨tb (List.mem_of_getElem? (i := 932) (by decide +kernel)), tb (List.mem_of_getElem? (i := 4) (by decide +kernel)), ⟨by decide +kernel, by decide +kernel⟩, by decide +kernel, by decide, by decide +kernel⟩
theorem mw_X3_trueUp : MWb yX3_trueUp cX3_trueUp 2 (some .int) 0 := ⟨tb (List.mem_of_getElem? (i := 936) (by decide +kernel)), tb (List.mem_of_getElem? (i := 4) (by decide +kernel)), ⟨by decide +kernel, by decide +kernel⟩, by decide +kernel, by decide, by decide +kernel⟩
theorem mw_X3_units : MWb yX3_units cX3_units 2 (some .int) 1 := ⟨tb (List.mem_of_getElem? (i := 816) (by decide +kernel)), tb (List.mem_of_getElem? (i := 4) (by decide +kernel)), ⟨by decide +kernel, by decide +kernel⟩, by decide +kernel, by decide, by decide +kernel⟩
theorem mw_X3_unitsForAll : MWb yX3_unitsForAll cX3_unitsForAll 3 (some .int) 1 := ⟨tb (List.mem_of_getElem? (i := 847) (by decide +kernel)), tb (List.mem_of_getElem? (i := 4) (by decide +kernel)), ⟨by decide +kernel, by decide +kernel⟩, by decide +kernel, by decide, by decide +kernel⟩
theorem mw_X3_used : MWb yX3_used cX3_used 2 (some .int) 1 := ⟨tb (List.mem_of_getElem? (i := 900) (by decide +kernel)), tb (List.mem_of_getElem? (i := 4) (by decide +kernel)), ⟨by decide +kernel, by decide +kernel⟩, by decide +kernel, by decide, by decide +kernel⟩
theorem mw_X3_why : MWb yX3_why cX3_why 3 (some .char) 2 := ⟨tb (List.mem_of_getElem? (i := 820) (by decide +kernel)), tb (List.mem_of_getElem? (i := 4) (by decide +kernel)), ⟨by decide +kernel, by decide +kernel⟩, by decide +kernel, by decide, by decide +kernel⟩
theorem mi_X0_changeNeed : MWi yX0_changeNeed RX0 := ⟨tb (List.mem_of_getElem? (i := 219) (by decide +kernel)), tp (List.mem_of_getElem? (i := 10) (by decide +kernel))⟩
theorem mi_X0_clearNeed : MWi yX0_clearNeed RX0 := ⟨tb (List.mem_of_getElem? (i := 185) (by decide +kernel)), tp (List.mem_of_getElem? (i := 3) (by decide +kernel))⟩
theorem mi_X0_countRights : MWi yX0_countRights RX0 := ⟨tb (List.mem_of_getElem? (i := 436) (by decide +kernel)), tp (List.mem_of_getElem? (i := 20) (by decide +kernel))⟩
theorem mi_X0_fill : MWi yX0_fill RX0 := ⟨tb (List.mem_of_getElem? (i := 420) (by decide +kernel)), tp (List.mem_of_getElem? (i := 18) (by decide +kernel))⟩
theorem mi_X0_fits : MWi yX0_fits RX0 := ⟨tb (List.mem_of_getElem? (i := 193) (by decide +kernel)), tp (List.mem_of_getElem? (i := 5) (by decide +kernel))⟩
theorem mi_X0_init : Cond.instanceMethod yX0_init ∈ lw_tbl := tb (List.mem_of_getElem? (i := 73) (by decide +kernel))
theorem mi_X0_misfit : MWi yX0_misfit RX0 := ⟨tb (List.mem_of_getElem? (i := 197) (by decide +kernel)), tp (List.mem_of_getElem? (i := 6) (by decide +kernel))⟩
theorem mi_X0_missing : MWi yX0_missing RX0 := ⟨tb (List.mem_of_getElem? (i := 231) (by decide +kernel)), tp (List.mem_of_getElem? (i := 12) (by decide +kernel))⟩
theorem mi_X0_missingPrice : MWi yX0_missingPrice RX0 := ⟨tb (List.mem_of_getElem? (i := 613) (by decide +kernel)), tp (List.mem_of_getElem? (i := 27) (by decide +kernel))⟩
theorem mi_X0_release : MWi yX0_release RX0 := ⟨tb (List.mem_of_getElem? (i := 239) (by decide +kernel)), tp (List.mem_of_getElem? (i := 14) (by decide +kernel))⟩
theorem mi_X0_serve : MWi yX0_serve RX0 := ⟨tb (List.mem_of_getElem? (i := 215) (by decide +kernel)), tp (List.mem_of_getElem? (i := 9) (by decide +kernel))⟩
theorem mi_X0_unitsOfHolder : MWi yX0_unitsOfHolder RX0 := ⟨tb (List.mem_of_getElem? (i := 227) (by decide +kernel)), tp (List.mem_of_getElem? (i := 11) (by decide +kernel))⟩
theorem mi_X1_fill : MWi yX1_fill RX1 := ⟨tb (List.mem_of_getElem? (i := 351) (by decide +kernel)), tp (List.mem_of_getElem? (i := 16) (by decide +kernel))⟩
theorem mi_X1_init : Cond.instanceMethod yX1_init ∈ lw_tbl := tb (List.mem_of_getElem? (i := 27) (by decide +kernel))
theorem mi_X2_addUnits : MWi yX2_addUnits RX2 := ⟨tb (List.mem_of_getElem? (i := 475) (by decide +kernel)), tb (List.mem_of_getElem? (i := 476) (by decide +kernel))⟩
theorem mi_X2_checkAllCanBeCovered : MWi yX2_checkAllCanBeCovered RX2 := ⟨tb (List.mem_of_getElem? (i := 600) (by decide +kernel)), tp (List.mem_of_getElem? (i := 25) (by decide +kernel))⟩
theorem mi_X2_clearNeeds : MWi yX2_clearNeeds RX2 := ⟨tb (List.mem_of_getElem? (i := 181) (by decide +kernel)), tp (List.mem_of_getElem? (i := 2) (by decide +kernel))⟩
theorem mi_X2_clearSearch : MWi yX2_clearSearch RX2 := ⟨tb (List.mem_of_getElem? (i := 177) (by decide +kernel)), tp (List.mem_of_getElem? (i := 1) (by decide +kernel))⟩
theorem mi_X2_countFitting : MWi yX2_countFitting RX2 := ⟨tb (List.mem_of_getElem? (i := 189) (by decide +kernel)), tp (List.mem_of_getElem? (i := 4) (by decide +kernel))⟩
theorem mi_X2_countGiven : MWi yX2_countGiven RX2 := ⟨tb (List.mem_of_getElem? (i := 546) (by decide +kernel)), tp (List.mem_of_getElem? (i := 21) (by decide +kernel))⟩
theorem mi_X2_coverage : MWi yX2_coverage RX2 := ⟨tb (List.mem_of_getElem? (i := 648) (by decide +kernel)), tb (List.mem_of_getElem? (i := 649) (by decide +kernel))⟩
theorem mi_X2_covered : MWi yX2_covered RX2 := ⟨tb (List.mem_of_getElem? (i := 168) (by decide +kernel)), tb (List.mem_of_getElem? (i := 169) (by decide +kernel))⟩
theorem mi_X2_coveredByTrying : MWi yX2_coveredByTrying RX2 := ⟨tb (List.mem_of_getElem? (i := 537) (by decide +kernel)), tb (List.mem_of_getElem? (i := 538) (by decide +kernel))⟩
theorem mi_X2_entitle : MWi yX2_entitle RX2 := ⟨tb (List.mem_of_getElem? (i := 410) (by decide +kernel)), tb (List.mem_of_getElem? (i := 411) (by decide +kernel))⟩
theorem mi_X2_entitlementAt : MWi yX2_entitlementAt RX2 := ⟨tb (List.mem_of_getElem? (i := 431) (by decide +kernel)), tp (List.mem_of_getElem? (i := 19) (by decide +kernel))⟩
theorem mi_X2_entitlementByCover : MWi yX2_entitlementByCover RX2 := ⟨tb (List.mem_of_getElem? (i := 561) (by decide +kernel)), tp (List.mem_of_getElem? (i := 23) (by decide +kernel))⟩
theorem mi_X2_entitlementOf : MWi yX2_entitlementOf RX2 := ⟨tb (List.mem_of_getElem? (i := 556) (by decide +kernel)), tb (List.mem_of_getElem? (i := 557) (by decide +kernel))⟩
theorem mi_X2_findCover : MWi yX2_findCover RX2 := ⟨tb (List.mem_of_getElem? (i := 173) (by decide +kernel)), tp (List.mem_of_getElem? (i := 0) (by decide +kernel))⟩
theorem mi_X2_findPurchase : MWi yX2_findPurchase RX2 := ⟨tb (List.mem_of_getElem? (i := 605) (by decide +kernel)), tp (List.mem_of_getElem? (i := 26) (by decide +kernel))⟩
theorem mi_X2_firstFitting : MWi yX2_firstFitting RX2 := ⟨tb (List.mem_of_getElem? (i := 507) (by decide +kernel)), tb (List.mem_of_getElem? (i := 508) (by decide +kernel))⟩
theorem mi_X2_fitting : MWi yX2_fitting RX2 := ⟨tb (List.mem_of_getElem? (i := 499) (by decide +kernel)), tb (List.mem_of_getElem? (i := 500) (by decide +kernel))⟩
theorem mi_X2_give : MWi yX2_give RX2 := ⟨tb (List.mem_of_getElem? (i := 211) (by decide +kernel)), tp (List.mem_of_getElem? (i := 8) (by decide +kernel))⟩
theorem mi_X2_init : Cond.instanceMethod yX2_init ∈ lw_tbl := tb (List.mem_of_getElem? (i := 18) (by decide +kernel))
theorem mi_X2_install : MWi yX2_install RX2 := ⟨tb (List.mem_of_getElem? (i := 251) (by decide +kernel)), tb (List.mem_of_getElem? (i := 252) (by decide +kernel))⟩
theorem mi_X2_installAt : MWi yX2_installAt RX2 := ⟨tb (List.mem_of_getElem? (i := 363) (by decide +kernel)), tp (List.mem_of_getElem? (i := 17) (by decide +kernel))⟩
theorem mi_X2_installs : MWi yX2_installs RX2 := ⟨tb (List.mem_of_getElem? (i := 157) (by decide +kernel)), tb (List.mem_of_getElem? (i := 158) (by decide +kernel))⟩
theorem mi_X2_isAllowed : MWi yX2_isAllowed RX2 := ⟨tb (List.mem_of_getElem? (i := 550) (by decide +kernel)), tp (List.mem_of_getElem? (i := 22) (by decide +kernel))⟩
theorem mi_X2_isBetween : Cond.static yX2_isBetween ∈ lw_tbl := tb (List.mem_of_getElem? (i := 165) (by decide +kernel))
theorem mi_X2_isHolder : Cond.static yX2_isHolder ∈ lw_tbl := tb (List.mem_of_getElem? (i := 258) (by decide +kernel))
theorem mi_X2_isMetric : Cond.static yX2_isMetric ∈ lw_tbl := tb (List.mem_of_getElem? (i := 414) (by decide +kernel))
theorem mi_X2_isPool : Cond.static yX2_isPool ∈ lw_tbl := tb (List.mem_of_getElem? (i := 261) (by decide +kernel))
theorem mi_X2_isRelease : Cond.static yX2_isRelease ∈ lw_tbl := tb (List.mem_of_getElem? (i := 255) (by decide +kernel))
theorem mi_X2_isThere : MWi yX2_isThere RX2 := ⟨tb (List.mem_of_getElem? (i := 161) (by decide +kernel)), tb (List.mem_of_getElem? (i := 162) (by decide +kernel))⟩
theorem mi_X2_keepAsBest : MWi yX2_keepAsBest RX2 := ⟨tb (List.mem_of_getElem? (i := 204) (by decide +kernel)), tp (List.mem_of_getElem? (i := 7) (by decide +kernel))⟩
theorem mi_X2_moveTo : MWi yX2_moveTo RX2 := ⟨tb (List.mem_of_getElem? (i := 386) (by decide +kernel)), tb (List.mem_of_getElem? (i := 387) (by decide +kernel))⟩
theorem mi_X2_purchase : MWi yX2_purchase RX2 := ⟨tb (List.mem_of_getElem? (i := 595) (by decide +kernel)), tb (List.mem_of_getElem? (i := 596) (by decide +kernel))⟩
theorem mi_X2_purchaseByTrying : MWi yX2_purchaseByTrying RX2 := ⟨tb (List.mem_of_getElem? (i := 620) (by decide +kernel)), tb (List.mem_of_getElem? (i := 621) (by decide +kernel))⟩
theorem mi_X2_reason : MWi yX2_reason RX2 := ⟨tb (List.mem_of_getElem? (i := 568) (by decide +kernel)), tb (List.mem_of_getElem? (i := 569) (by decide +kernel))⟩
theorem mi_X2_retire : MWi yX2_retire RX2 := ⟨tb (List.mem_of_getElem? (i := 358) (by decide +kernel)), tb (List.mem_of_getElem? (i := 359) (by decide +kernel))⟩
theorem mi_X2_searchCover : Cond.static yX2_searchCover ∈ lw_tbl := tb (List.mem_of_getElem? (i := 200) (by decide +kernel))
theorem mi_X2_searchPurchase : Cond.static yX2_searchPurchase ∈ lw_tbl := tb (List.mem_of_getElem? (i := 609) (by decide +kernel))
theorem mi_X2_serveByBest : MWi yX2_serveByBest RX2 := ⟨tb (List.mem_of_getElem? (i := 581) (by decide +kernel)), tp (List.mem_of_getElem? (i := 24) (by decide +kernel))⟩
theorem mi_X2_setMinimum : MWi yX2_setMinimum RX2 := ⟨tb (List.mem_of_getElem? (i := 443) (by decide +kernel)), tb (List.mem_of_getElem? (i := 444) (by decide +kernel))⟩
theorem mi_X2_setPool : MWi yX2_setPool RX2 := ⟨tb (List.mem_of_getElem? (i := 402) (by decide +kernel)), tb (List.mem_of_getElem? (i := 403) (by decide +kernel))⟩
theorem mi_X2_setPrice : MWi yX2_setPrice RX2 := ⟨tb (List.mem_of_getElem? (i := 467) (by decide +kernel)), tb (List.mem_of_getElem? (i := 468) (by decide +kernel))⟩
theorem mi_X2_setRights : MWi yX2_setRights RX2 := ⟨tb (List.mem_of_getElem? (i := 426) (by decide +kernel)), tb (List.mem_of_getElem? (i := 427) (by decide +kernel))⟩
theorem mi_X2_setVersion : MWi yX2_setVersion RX2 := ⟨tb (List.mem_of_getElem? (i := 394) (by decide +kernel)), tb (List.mem_of_getElem? (i := 395) (by decide +kernel))⟩
theorem mi_X2_spare : MWi yX2_spare RX2 := ⟨tb (List.mem_of_getElem? (i := 587) (by decide +kernel)), tb (List.mem_of_getElem? (i := 588) (by decide +kernel))⟩
theorem mi_X2_spent : MWi yX2_spent RX2 := ⟨tb (List.mem_of_getElem? (i := 242) (by decide +kernel)), tb (List.mem_of_getElem? (i := 243) (by decide +kernel))⟩
theorem mi_X2_sumOfMissing : MWi yX2_sumOfMissing RX2 := ⟨tb (List.mem_of_getElem? (i := 628) (by decide +kernel)), tp (List.mem_of_getElem? (i := 28) (by decide +kernel))⟩
theorem mi_X2_takeBack : MWi yX2_takeBack RX2 := ⟨tb (List.mem_of_getElem? (i := 235) (by decide +kernel)), tp (List.mem_of_getElem? (i := 13) (by decide +kernel))⟩
theorem mi_X2_toBuy : MWi yX2_toBuy RX2 := ⟨tb (List.mem_of_getElem? (i := 634) (by decide +kernel)), tb (List.mem_of_getElem? (i := 635) (by decide +kernel))⟩
theorem mi_X2_trueUp : MWi yX2_trueUp RX2 := ⟨tb (List.mem_of_getElem? (i := 641) (by decide +kernel)), tb (List.mem_of_getElem? (i := 642) (by decide +kernel))⟩
theorem mi_X2_tryCovers : Cond.static yX2_tryCovers ∈ lw_tbl := tb (List.mem_of_getElem? (i := 542) (by decide +kernel))
theorem mi_X2_tryPurchases : Cond.static yX2_tryPurchases ∈ lw_tbl := tb (List.mem_of_getElem? (i := 624) (by decide +kernel))
theorem mi_X2_units : MWi yX2_units RX2 := ⟨tb (List.mem_of_getElem? (i := 484) (by decide +kernel)), tb (List.mem_of_getElem? (i := 485) (by decide +kernel))⟩
theorem mi_X2_unitsForAll : MWi yX2_unitsForAll RX2 := ⟨tb (List.mem_of_getElem? (i := 530) (by decide +kernel)), tb (List.mem_of_getElem? (i := 531) (by decide +kernel))⟩
theorem mi_X2_used : MWi yX2_used RX2 := ⟨tb (List.mem_of_getElem? (i := 576) (by decide +kernel)), tb (List.mem_of_getElem? (i := 577) (by decide +kernel))⟩
theorem mi_X2_why : MWi yX2_why RX2 := ⟨tb (List.mem_of_getElem? (i := 491) (by decide +kernel)), tb (List.mem_of_getElem? (i := 492) (by decide +kernel))⟩
theorem mi_X3_addUnits : MWi yX3_addUnits RX3 := ⟨tb (List.mem_of_getElem? (i := 810) (by decide +kernel)), tb (List.mem_of_getElem? (i := 811) (by decide +kernel))⟩
theorem mi_X3_begin : MWi yX3_begin RX3 := ⟨tb (List.mem_of_getElem? (i := 866) (by decide +kernel)), tp (List.mem_of_getElem? (i := 38) (by decide +kernel))⟩
theorem mi_X3_beyond : MWi yX3_beyond RX3 := ⟨tb (List.mem_of_getElem? (i := 923) (by decide +kernel)), tp (List.mem_of_getElem? (i := 46) (by decide +kernel))⟩
theorem mi_X3_buys : MWi yX3_buys RX3 := ⟨tb (List.mem_of_getElem? (i := 915) (by decide +kernel)), tp (List.mem_of_getElem? (i := 44) (by decide +kernel))⟩
theorem mi_X3_costs : MWi yX3_costs RX3 := ⟨tb (List.mem_of_getElem? (i := 919) (by decide +kernel)), tp (List.mem_of_getElem? (i := 45) (by decide +kernel))⟩
theorem mi_X3_cover : MWi yX3_cover RX3 := ⟨tb (List.mem_of_getElem? (i := 862) (by decide +kernel)), tp (List.mem_of_getElem? (i := 37) (by decide +kernel))⟩
theorem mi_X3_coverage : MWi yX3_coverage RX3 := ⟨tb (List.mem_of_getElem? (i := 942) (by decide +kernel)), tb (List.mem_of_getElem? (i := 943) (by decide +kernel))⟩
theorem mi_X3_covered : MWi yX3_covered RX3 := ⟨tb (List.mem_of_getElem? (i := 857) (by decide +kernel)), tb (List.mem_of_getElem? (i := 858) (by decide +kernel))⟩
theorem mi_X3_coveredByTrying : MWi yX3_coveredByTrying RX3 := ⟨tb (List.mem_of_getElem? (i := 885) (by decide +kernel)), tb (List.mem_of_getElem? (i := 886) (by decide +kernel))⟩
theorem mi_X3_covers : MWi yX3_covers RX3 := ⟨tb (List.mem_of_getElem? (i := 870) (by decide +kernel)), tp (List.mem_of_getElem? (i := 39) (by decide +kernel))⟩
theorem mi_X3_entitle : MWi yX3_entitle RX3 := ⟨tb (List.mem_of_getElem? (i := 790) (by decide +kernel)), tb (List.mem_of_getElem? (i := 791) (by decide +kernel))⟩
theorem mi_X3_entitlementOf : MWi yX3_entitlementOf RX3 := ⟨tb (List.mem_of_getElem? (i := 890) (by decide +kernel)), tb (List.mem_of_getElem? (i := 891) (by decide +kernel))⟩
theorem mi_X3_fail : MWi yX3_fail RX3 := ⟨tb (List.mem_of_getElem? (i := 758) (by decide +kernel)), tp (List.mem_of_getElem? (i := 29) (by decide +kernel))⟩
theorem mi_X3_firstFitting : MWi yX3_firstFitting RX3 := ⟨tb (List.mem_of_getElem? (i := 841) (by decide +kernel)), tb (List.mem_of_getElem? (i := 842) (by decide +kernel))⟩
theorem mi_X3_fits : MWi yX3_fits RX3 := ⟨tb (List.mem_of_getElem? (i := 838) (by decide +kernel)), tp (List.mem_of_getElem? (i := 34) (by decide +kernel))⟩
theorem mi_X3_fits_ : MWi yX3_fits_ RX3 := ⟨tb (List.mem_of_getElem? (i := 834) (by decide +kernel)), tp (List.mem_of_getElem? (i := 33) (by decide +kernel))⟩
theorem mi_X3_fitting : MWi yX3_fitting RX3 := ⟨tb (List.mem_of_getElem? (i := 829) (by decide +kernel)), tb (List.mem_of_getElem? (i := 830) (by decide +kernel))⟩
theorem mi_X3_greatest : MWi yX3_greatest RX3 := ⟨tb (List.mem_of_getElem? (i := 854) (by decide +kernel)), tp (List.mem_of_getElem? (i := 36) (by decide +kernel))⟩
theorem mi_X3_init : Cond.instanceMethod yX3_init ∈ lw_tbl := tb (List.mem_of_getElem? (i := 655) (by decide +kernel))
theorem mi_X3_install : MWi yX3_install RX3 := ⟨tb (List.mem_of_getElem? (i := 750) (by decide +kernel)), tb (List.mem_of_getElem? (i := 751) (by decide +kernel))⟩
theorem mi_X3_installs : MWi yX3_installs RX3 := ⟨tb (List.mem_of_getElem? (i := 785) (by decide +kernel)), tb (List.mem_of_getElem? (i := 786) (by decide +kernel))⟩
theorem mi_X3_isAllowed : MWi yX3_isAllowed RX3 := ⟨tb (List.mem_of_getElem? (i := 878) (by decide +kernel)), tp (List.mem_of_getElem? (i := 41) (by decide +kernel))⟩
theorem mi_X3_isIn : Cond.static yX3_isIn ∈ lw_tbl := tb (List.mem_of_getElem? (i := 754) (by decide +kernel))
theorem mi_X3_isSet : Cond.static yX3_isSet ∈ lw_tbl := tb (List.mem_of_getElem? (i := 826) (by decide +kernel))
theorem mi_X3_isThere : MWi yX3_isThere RX3 := ⟨tb (List.mem_of_getElem? (i := 769) (by decide +kernel)), tb (List.mem_of_getElem? (i := 770) (by decide +kernel))⟩
theorem mi_X3_moveTo : MWi yX3_moveTo RX3 := ⟨tb (List.mem_of_getElem? (i := 773) (by decide +kernel)), tb (List.mem_of_getElem? (i := 774) (by decide +kernel))⟩
theorem mi_X3_needs : MWi yX3_needs RX3 := ⟨tb (List.mem_of_getElem? (i := 850) (by decide +kernel)), tp (List.mem_of_getElem? (i := 35) (by decide +kernel))⟩
theorem mi_X3_noEntitlement : MWi yX3_noEntitlement RX3 := ⟨tb (List.mem_of_getElem? (i := 799) (by decide +kernel)), tp (List.mem_of_getElem? (i := 31) (by decide +kernel))⟩
theorem mi_X3_noInstall : MWi yX3_noInstall RX3 := ⟨tb (List.mem_of_getElem? (i := 766) (by decide +kernel)), tp (List.mem_of_getElem? (i := 30) (by decide +kernel))⟩
theorem mi_X3_noPurchase : MWi yX3_noPurchase RX3 := ⟨tb (List.mem_of_getElem? (i := 911) (by decide +kernel)), tp (List.mem_of_getElem? (i := 43) (by decide +kernel))⟩
theorem mi_X3_purchase : MWi yX3_purchase RX3 := ⟨tb (List.mem_of_getElem? (i := 906) (by decide +kernel)), tb (List.mem_of_getElem? (i := 907) (by decide +kernel))⟩
theorem mi_X3_purchaseByTrying : MWi yX3_purchaseByTrying RX3 := ⟨tb (List.mem_of_getElem? (i := 926) (by decide +kernel)), tb (List.mem_of_getElem? (i := 927) (by decide +kernel))⟩
theorem mi_X3_put : MWi yX3_put RX3 := ⟨tb (List.mem_of_getElem? (i := 882) (by decide +kernel)), tp (List.mem_of_getElem? (i := 42) (by decide +kernel))⟩
theorem mi_X3_reason : MWi yX3_reason RX3 := ⟨tb (List.mem_of_getElem? (i := 894) (by decide +kernel)), tb (List.mem_of_getElem? (i := 895) (by decide +kernel))⟩
theorem mi_X3_reasonOf : MWi yX3_reasonOf RX3 := ⟨tb (List.mem_of_getElem? (i := 823) (by decide +kernel)), tp (List.mem_of_getElem? (i := 32) (by decide +kernel))⟩
theorem mi_X3_retire : MWi yX3_retire RX3 := ⟨tb (List.mem_of_getElem? (i := 761) (by decide +kernel)), tb (List.mem_of_getElem? (i := 762) (by decide +kernel))⟩
theorem mi_X3_setMinimum : MWi yX3_setMinimum RX3 := ⟨tb (List.mem_of_getElem? (i := 802) (by decide +kernel)), tb (List.mem_of_getElem? (i := 803) (by decide +kernel))⟩
theorem mi_X3_setPool : MWi yX3_setPool RX3 := ⟨tb (List.mem_of_getElem? (i := 781) (by decide +kernel)), tb (List.mem_of_getElem? (i := 782) (by decide +kernel))⟩
theorem mi_X3_setPrice : MWi yX3_setPrice RX3 := ⟨tb (List.mem_of_getElem? (i := 806) (by decide +kernel)), tb (List.mem_of_getElem? (i := 807) (by decide +kernel))⟩
theorem mi_X3_setRights : MWi yX3_setRights RX3 := ⟨tb (List.mem_of_getElem? (i := 794) (by decide +kernel)), tb (List.mem_of_getElem? (i := 795) (by decide +kernel))⟩
theorem mi_X3_setVersion : MWi yX3_setVersion RX3 := ⟨tb (List.mem_of_getElem? (i := 777) (by decide +kernel)), tb (List.mem_of_getElem? (i := 778) (by decide +kernel))⟩
theorem mi_X3_spare : MWi yX3_spare RX3 := ⟨tb (List.mem_of_getElem? (i := 902) (by decide +kernel)), tb (List.mem_of_getElem? (i := 903) (by decide +kernel))⟩
theorem mi_X3_spent : MWi yX3_spent RX3 := ⟨tb (List.mem_of_getElem? (i := 938) (by decide +kernel)), tb (List.mem_of_getElem? (i := 939) (by decide +kernel))⟩
theorem mi_X3_take : MWi yX3_take RX3 := ⟨tb (List.mem_of_getElem? (i := 874) (by decide +kernel)), tp (List.mem_of_getElem? (i := 40) (by decide +kernel))⟩
theorem mi_X3_thrown : MWi yX3_thrown RX3 := ⟨tb (List.mem_of_getElem? (i := 746) (by decide +kernel)), tb (List.mem_of_getElem? (i := 747) (by decide +kernel))⟩
theorem mi_X3_toBuy : MWi yX3_toBuy RX3 := ⟨tb (List.mem_of_getElem? (i := 930) (by decide +kernel)), tb (List.mem_of_getElem? (i := 931) (by decide +kernel))⟩
theorem mi_X3_trueUp : MWi yX3_trueUp RX3 := ⟨tb (List.mem_of_getElem? (i := 934) (by decide +kernel)), tb (List.mem_of_getElem? (i := 935) (by decide +kernel))⟩
theorem mi_X3_units : MWi yX3_units RX3 := ⟨tb (List.mem_of_getElem? (i := 814) (by decide +kernel)), tb (List.mem_of_getElem? (i := 815) (by decide +kernel))⟩
theorem mi_X3_unitsForAll : MWi yX3_unitsForAll RX3 := ⟨tb (List.mem_of_getElem? (i := 845) (by decide +kernel)), tb (List.mem_of_getElem? (i := 846) (by decide +kernel))⟩
theorem mi_X3_used : MWi yX3_used RX3 := ⟨tb (List.mem_of_getElem? (i := 898) (by decide +kernel)), tb (List.mem_of_getElem? (i := 899) (by decide +kernel))⟩
theorem mi_X3_why : MWi yX3_why RX3 := ⟨tb (List.mem_of_getElem? (i := 818) (by decide +kernel)), tb (List.mem_of_getElem? (i := 819) (by decide +kernel))⟩
theorem kl_48 : Cond.classLink "Entitled" 48 "java/lang/IllegalArgumentException" ∈ lw_tbl := tb (List.mem_of_getElem? (i := 263) (by decide +kernel))
theorem kl_62 : Cond.classLink "Entitled" 62 "java/lang/IllegalStateException" ∈ lw_tbl := tb (List.mem_of_getElem? (i := 333) (by decide +kernel))
theorem kl_239 : Cond.classLink "Entitled" 239 "java/lang/IndexOutOfBoundsException" ∈ lw_tbl := tb (List.mem_of_getElem? (i := 366) (by decide +kernel))
theorem kl_137 : Cond.classLink "Entitled" 137 "java/lang/UnsupportedOperationException" ∈ lw_tbl := tb (List.mem_of_getElem? (i := 447) (by decide +kernel))
theorem kl_169 : Cond.classLink "Entitled" 169 "java/util/NoSuchElementException" ∈ lw_tbl := tb (List.mem_of_getElem? (i := 510) (by decide +kernel))
theorem ki_xIAE : Cond.initialized xIAE ∈ lw_tbl := tb (List.mem_of_getElem? (i := 8) (by decide +kernel))
theorem ki_xISE : Cond.initialized xISE ∈ lw_tbl := tb (List.mem_of_getElem? (i := 9) (by decide +kernel))
theorem ki_xIOB : Cond.initialized xIOB ∈ lw_tbl := tb (List.mem_of_getElem? (i := 10) (by decide +kernel))
theorem ki_xUOE : Cond.initialized xUOE ∈ lw_tbl := tb (List.mem_of_getElem? (i := 11) (by decide +kernel))
theorem ki_xNSE : Cond.initialized xNSE ∈ lw_tbl := tb (List.mem_of_getElem? (i := 12) (by decide +kernel))
end
section
/-! the cells by their tags; a write, as a write into the memory -/
section Help
theorem ms_ne {M : Mem} {c0 i0 j : Nat} {x : Int32} {c n : Nat} (h : (c, n) ≠ (c0, i0)) (k : Nat) : ms M c0 i0 j x c n k = M c n k := by
  unfold ms
  rw [if_neg]
  rintro ⟨rfl, rfl, -⟩
  exact h rfl
theorem ev_congr {w : Wo} {M M' : Mem} {G G' : Lng} {c n : Nat} (h : ∀ k, M c n k = M' c n k) (hg : G (c, n) = G' (c, n)) : ev w M G (c, n) = ev w M' G' (c, n) := by
  have h' : M c n = M' c n := funext h
  by_cases h0 : c = 0
  · subst h0; simp [ev, h]
  by_cases h1 : c = 1
  · subst h1; simp [ev, h]
  by_cases h2 : c = 2
  · subst h2; simp [ev, h, hg]
  by_cases h3 : c = 3
  · subst h3; simp [ev, h, hg]
  simp only [ev, if_neg h0, if_neg h1, if_neg h2, if_neg h3, h', hg]
theorem es_of {w : Wo} {M M' : Mem} {G G' : Lng} {key : Nat × Nat} {v : va_E} (hv : v = ev w M' G' key) (hM : ∀ c n, (c, n) ≠ key → (∀ k, M c n k = M' c n k) ∧ G (c, n) = G' (c, n)) : eset (ev w M G) key v = ev w M' G' := by
  funext k
  by_cases hk : k = key
  · subst hk; rw [eset, if_pos rfl, hv]
  · rw [eset, if_neg hk]
    obtain ⟨c, n⟩ := k
    exact ev_congr (hM c n hk).1 (hM c n hk).2
theorem evA {w : Wo} {M : Mem} {G : Lng} {c i : Nat} (h1 : 6 ≤ c) (h2 : c ≤ 31) : ev w M G (c, i) = .inl (w.2.2.2 (aty c), (alen c, .inl (M c i))) := by
  simp only [ev]
  rw [if_neg (by omega), if_neg (by omega), if_neg (by omega), if_neg (by omega), if_neg (by omega), if_neg (by omega), if_neg (by omega), if_neg (by omega)]
theorem esA {w : Wo} {M : Mem} {G : Lng} {c i j : Nat} {x : Int32} (h1 : 6 ≤ c) (h2 : c ≤ 31) : eset (ev w M G) (c, i) (.inl (w.2.2.2 (aty c), (alen c, .inl (upd (M c i) j x)))) = ev w (ms M c i j x) G := by
  refine es_of ?_ (fun c' n hk => ⟨fun k => (ms_ne hk k).symm, rfl⟩)
  rw [evA h1 h2]
  congr 4
  funext q
  by_cases hq : q = j <;> simp [upd, ms, hq]
theorem ev0 {w : Wo} {M : Mem} {G : Lng} {i : Nat} : ev w M G (0, i) = .inr (0, [.int (M 0 i 0), .int (M 0 i 1), .int (M 0 i 2), .int (M 0 i 3), .int (M 0 i 4), .int (M 0 i 5), .int (M 0 i 6), .int (M 0 i 7), .int (M 0 i 8), .int (M 0 i 9), .int (M 0 i 10), .ref (w.1 (9, i)), .int (M 0 i 12)]) := rfl
theorem ev1 {w : Wo} {M : Mem} {G : Lng} {i : Nat} : ev w M G (1, i) = .inr (1, [.int (M 1 i 0), .int (M 1 i 1), .int (M 1 i 2), .int (M 1 i 3), .int (M 1 i 4), .int (M 1 i 5), .int (M 1 i 6), .int (M 1 i 7)]) := rfl
theorem ev2 {w : Wo} {M : Mem} {G : Lng} {i : Nat} : ev w M G (2, i) = .inr (2, [.ref (w.1 (4, 0)), .ref (w.1 (5, 0)), .int (M 2 i 2), .int (M 2 i 3), .int (M 2 i 4), .long (G (2, i)), .ref (w.1 (6, 0)), .ref (w.1 (7, 0)), .ref (w.1 (8, 0)), .int (M 2 i 9)]) := rfl
theorem ev3 {w : Wo} {M : Mem} {G : Lng} {i : Nat} : ev w M G (3, i) = .inr (3, [.int (M 3 i 0), .int (M 3 i 1), .int (M 3 i 2), .int (M 3 i 3), .int (M 3 i 4), .long (G (3, i)), .ref (w.1 (10, 0)), .ref (w.1 (11, 0)), .ref (w.1 (12, 0)), .ref (w.1 (13, 0)), .ref (w.1 (14, 0)), .ref (w.1 (15, 0)), .ref (w.1 (16, 0)), .ref (w.1 (17, 0)), .ref (w.1 (18, 0)), .ref (w.1 (19, 0)), .ref (w.1 (20, 0)), .ref (w.1 (21, 0)), .ref (w.1 (22, 0)), .ref (w.1 (23, 0)), .ref (w.1 (24, 0)), .ref (w.1 (25, 0)), .ref (w.1 (26, 0)), .ref (w.1 (27, 0)), .ref (w.1 (28, 0)), .ref (w.1 (29, 0)), .ref (w.1 (30, 0)), .ref (w.1 (31, 0))]) := rfl
theorem ev4 {w : Wo} {M : Mem} {G : Lng} {i : Nat} : ev w M G (4, i) = .inl (w.2.2.2 6, (12, .inr (.inr (.inr (.inr (fun j => some (w.1 (1, j)))))))) := rfl
theorem ev5 {w : Wo} {M : Mem} {G : Lng} {i : Nat} : ev w M G (5, i) = .inl (w.2.2.2 5, (5, .inr (.inr (.inr (.inr (fun j => some (w.1 (0, j)))))))) := rfl
theorem ev40 {w : Wo} {M : Mem} {G : Lng} {i : Nat} : ev w M G (40, i) = .inl (w.2.2.2 3, (1, .inr (.inl (fun _ => G (40, i))))) := rfl
theorem ev41 {w : Wo} {M : Mem} {G : Lng} {i : Nat} : ev w M G (41, i) = .inl (w.2.2.2 4, (1, .inr (.inr (.inr (.inl (fun _ => (G (41, i)).toUInt64)))))) := rfl
theorem es_0_0 {w : Wo} {M : Mem} {G : Lng} {i : Nat} {x : Int32} : eset (ev w M G) (0, i) (.inr (0, ([.int (M 0 i 0), .int (M 0 i 1), .int (M 0 i 2), .int (M 0 i 3), .int (M 0 i 4), .int (M 0 i 5), .int (M 0 i 6), .int (M 0 i 7), .int (M 0 i 8), .int (M 0 i 9), .int (M 0 i 10), .ref (w.1 (9, i)), .int (M 0 i 12)] : List Value).set 0 (.int x))) = ev w (ms M 0 i 0 x) G := es_of (by simp [ev, ms]) (fun c n hk => ⟨fun k => (ms_ne hk k).symm, rfl⟩)
theorem es_0_1 {w : Wo} {M : Mem} {G : Lng} {i : Nat} {x : Int32} : eset (ev w M G) (0, i) (.inr (0, ([.int (M 0 i 0), .int (M 0 i 1), .int (M 0 i 2), .int (M 0 i 3), .int (M 0 i 4), .int (M 0 i 5), .int (M 0 i 6), .int (M 0 i 7), .int (M 0 i 8), .int (M 0 i 9), .int (M 0 i 10), .ref (w.1 (9, i)), .int (M 0 i 12)] : List Value).set 1 (.int x))) = ev w (ms M 0 i 1 x) G := es_of (by simp [ev, ms]) (fun c n hk => ⟨fun k => (ms_ne hk k).symm, rfl⟩)
theorem es_0_2 {w : Wo} {M : Mem} {G : Lng} {i : Nat} {x : Int32} : eset (ev w M G) (0, i) (.inr (0, ([.int (M 0 i 0), .int (M 0 i 1), .int (M 0 i 2), .int (M 0 i 3), .int (M 0 i 4), .int (M 0 i 5), .int (M 0 i 6), .int (M 0 i 7), .int (M 0 i 8), .int (M 0 i 9), .int (M 0 i 10), .ref (w.1 (9, i)), .int (M 0 i 12)] : List Value).set 2 (.int x))) = ev w (ms M 0 i 2 x) G := es_of (by simp [ev, ms]) (fun c n hk => ⟨fun k => (ms_ne hk k).symm, rfl⟩)
theorem es_0_3 {w : Wo} {M : Mem} {G : Lng} {i : Nat} {x : Int32} : eset (ev w M G) (0, i) (.inr (0, ([.int (M 0 i 0), .int (M 0 i 1), .int (M 0 i 2), .int (M 0 i 3), .int (M 0 i 4), .int (M 0 i 5), .int (M 0 i 6), .int (M 0 i 7), .int (M 0 i 8), .int (M 0 i 9), .int (M 0 i 10), .ref (w.1 (9, i)), .int (M 0 i 12)] : List Value).set 3 (.int x))) = ev w (ms M 0 i 3 x) G := es_of (by simp [ev, ms]) (fun c n hk => ⟨fun k => (ms_ne hk k).symm, rfl⟩)
theorem es_0_4 {w : Wo} {M : Mem} {G : Lng} {i : Nat} {x : Int32} : eset (ev w M G) (0, i) (.inr (0, ([.int (M 0 i 0), .int (M 0 i 1), .int (M 0 i 2), .int (M 0 i 3), .int (M 0 i 4), .int (M 0 i 5), .int (M 0 i 6), .int (M 0 i 7), .int (M 0 i 8), .int (M 0 i 9), .int (M 0 i 10), .ref (w.1 (9, i)), .int (M 0 i 12)] : List Value).set 4 (.int x))) = ev w (ms M 0 i 4 x) G := es_of (by simp [ev, ms]) (fun c n hk => ⟨fun k => (ms_ne hk k).symm, rfl⟩)
theorem es_0_5 {w : Wo} {M : Mem} {G : Lng} {i : Nat} {x : Int32} : eset (ev w M G) (0, i) (.inr (0, ([.int (M 0 i 0), .int (M 0 i 1), .int (M 0 i 2), .int (M 0 i 3), .int (M 0 i 4), .int (M 0 i 5), .int (M 0 i 6), .int (M 0 i 7), .int (M 0 i 8), .int (M 0 i 9), .int (M 0 i 10), .ref (w.1 (9, i)), .int (M 0 i 12)] : List Value).set 5 (.int x))) = ev w (ms M 0 i 5 x) G := es_of (by simp [ev, ms]) (fun c n hk => ⟨fun k => (ms_ne hk k).symm, rfl⟩)
theorem es_0_6 {w : Wo} {M : Mem} {G : Lng} {i : Nat} {x : Int32} : eset (ev w M G) (0, i) (.inr (0, ([.int (M 0 i 0), .int (M 0 i 1), .int (M 0 i 2), .int (M 0 i 3), .int (M 0 i 4), .int (M 0 i 5), .int (M 0 i 6), .int (M 0 i 7), .int (M 0 i 8), .int (M 0 i 9), .int (M 0 i 10), .ref (w.1 (9, i)), .int (M 0 i 12)] : List Value).set 6 (.int x))) = ev w (ms M 0 i 6 x) G := es_of (by simp [ev, ms]) (fun c n hk => ⟨fun k => (ms_ne hk k).symm, rfl⟩)
theorem es_0_7 {w : Wo} {M : Mem} {G : Lng} {i : Nat} {x : Int32} : eset (ev w M G) (0, i) (.inr (0, ([.int (M 0 i 0), .int (M 0 i 1), .int (M 0 i 2), .int (M 0 i 3), .int (M 0 i 4), .int (M 0 i 5), .int (M 0 i 6), .int (M 0 i 7), .int (M 0 i 8), .int (M 0 i 9), .int (M 0 i 10), .ref (w.1 (9, i)), .int (M 0 i 12)] : List Value).set 7 (.int x))) = ev w (ms M 0 i 7 x) G := es_of (by simp [ev, ms]) (fun c n hk => ⟨fun k => (ms_ne hk k).symm, rfl⟩)
theorem es_0_8 {w : Wo} {M : Mem} {G : Lng} {i : Nat} {x : Int32} : eset (ev w M G) (0, i) (.inr (0, ([.int (M 0 i 0), .int (M 0 i 1), .int (M 0 i 2), .int (M 0 i 3), .int (M 0 i 4), .int (M 0 i 5), .int (M 0 i 6), .int (M 0 i 7), .int (M 0 i 8), .int (M 0 i 9), .int (M 0 i 10), .ref (w.1 (9, i)), .int (M 0 i 12)] : List Value).set 8 (.int x))) = ev w (ms M 0 i 8 x) G := es_of (by simp [ev, ms]) (fun c n hk => ⟨fun k => (ms_ne hk k).symm, rfl⟩)
theorem es_0_9 {w : Wo} {M : Mem} {G : Lng} {i : Nat} {x : Int32} : eset (ev w M G) (0, i) (.inr (0, ([.int (M 0 i 0), .int (M 0 i 1), .int (M 0 i 2), .int (M 0 i 3), .int (M 0 i 4), .int (M 0 i 5), .int (M 0 i 6), .int (M 0 i 7), .int (M 0 i 8), .int (M 0 i 9), .int (M 0 i 10), .ref (w.1 (9, i)), .int (M 0 i 12)] : List Value).set 9 (.int x))) = ev w (ms M 0 i 9 x) G := es_of (by simp [ev, ms]) (fun c n hk => ⟨fun k => (ms_ne hk k).symm, rfl⟩)
theorem es_0_10 {w : Wo} {M : Mem} {G : Lng} {i : Nat} {x : Int32} : eset (ev w M G) (0, i) (.inr (0, ([.int (M 0 i 0), .int (M 0 i 1), .int (M 0 i 2), .int (M 0 i 3), .int (M 0 i 4), .int (M 0 i 5), .int (M 0 i 6), .int (M 0 i 7), .int (M 0 i 8), .int (M 0 i 9), .int (M 0 i 10), .ref (w.1 (9, i)), .int (M 0 i 12)] : List Value).set 10 (.int x))) = ev w (ms M 0 i 10 x) G := es_of (by simp [ev, ms]) (fun c n hk => ⟨fun k => (ms_ne hk k).symm, rfl⟩)
theorem es_0_12 {w : Wo} {M : Mem} {G : Lng} {i : Nat} {x : Int32} : eset (ev w M G) (0, i) (.inr (0, ([.int (M 0 i 0), .int (M 0 i 1), .int (M 0 i 2), .int (M 0 i 3), .int (M 0 i 4), .int (M 0 i 5), .int (M 0 i 6), .int (M 0 i 7), .int (M 0 i 8), .int (M 0 i 9), .int (M 0 i 10), .ref (w.1 (9, i)), .int (M 0 i 12)] : List Value).set 12 (.int x))) = ev w (ms M 0 i 12 x) G := es_of (by simp [ev, ms]) (fun c n hk => ⟨fun k => (ms_ne hk k).symm, rfl⟩)
theorem es_1_0 {w : Wo} {M : Mem} {G : Lng} {i : Nat} {x : Int32} : eset (ev w M G) (1, i) (.inr (1, ([.int (M 1 i 0), .int (M 1 i 1), .int (M 1 i 2), .int (M 1 i 3), .int (M 1 i 4), .int (M 1 i 5), .int (M 1 i 6), .int (M 1 i 7)] : List Value).set 0 (.int x))) = ev w (ms M 1 i 0 x) G := es_of (by simp [ev, ms]) (fun c n hk => ⟨fun k => (ms_ne hk k).symm, rfl⟩)
theorem es_1_1 {w : Wo} {M : Mem} {G : Lng} {i : Nat} {x : Int32} : eset (ev w M G) (1, i) (.inr (1, ([.int (M 1 i 0), .int (M 1 i 1), .int (M 1 i 2), .int (M 1 i 3), .int (M 1 i 4), .int (M 1 i 5), .int (M 1 i 6), .int (M 1 i 7)] : List Value).set 1 (.int x))) = ev w (ms M 1 i 1 x) G := es_of (by simp [ev, ms]) (fun c n hk => ⟨fun k => (ms_ne hk k).symm, rfl⟩)
theorem es_1_2 {w : Wo} {M : Mem} {G : Lng} {i : Nat} {x : Int32} : eset (ev w M G) (1, i) (.inr (1, ([.int (M 1 i 0), .int (M 1 i 1), .int (M 1 i 2), .int (M 1 i 3), .int (M 1 i 4), .int (M 1 i 5), .int (M 1 i 6), .int (M 1 i 7)] : List Value).set 2 (.int x))) = ev w (ms M 1 i 2 x) G := es_of (by simp [ev, ms]) (fun c n hk => ⟨fun k => (ms_ne hk k).symm, rfl⟩)
theorem es_1_3 {w : Wo} {M : Mem} {G : Lng} {i : Nat} {x : Int32} : eset (ev w M G) (1, i) (.inr (1, ([.int (M 1 i 0), .int (M 1 i 1), .int (M 1 i 2), .int (M 1 i 3), .int (M 1 i 4), .int (M 1 i 5), .int (M 1 i 6), .int (M 1 i 7)] : List Value).set 3 (.int x))) = ev w (ms M 1 i 3 x) G := es_of (by simp [ev, ms]) (fun c n hk => ⟨fun k => (ms_ne hk k).symm, rfl⟩)
theorem es_1_4 {w : Wo} {M : Mem} {G : Lng} {i : Nat} {x : Int32} : eset (ev w M G) (1, i) (.inr (1, ([.int (M 1 i 0), .int (M 1 i 1), .int (M 1 i 2), .int (M 1 i 3), .int (M 1 i 4), .int (M 1 i 5), .int (M 1 i 6), .int (M 1 i 7)] : List Value).set 4 (.int x))) = ev w (ms M 1 i 4 x) G := es_of (by simp [ev, ms]) (fun c n hk => ⟨fun k => (ms_ne hk k).symm, rfl⟩)
theorem es_1_5 {w : Wo} {M : Mem} {G : Lng} {i : Nat} {x : Int32} : eset (ev w M G) (1, i) (.inr (1, ([.int (M 1 i 0), .int (M 1 i 1), .int (M 1 i 2), .int (M 1 i 3), .int (M 1 i 4), .int (M 1 i 5), .int (M 1 i 6), .int (M 1 i 7)] : List Value).set 5 (.int x))) = ev w (ms M 1 i 5 x) G := es_of (by simp [ev, ms]) (fun c n hk => ⟨fun k => (ms_ne hk k).symm, rfl⟩)
theorem es_1_6 {w : Wo} {M : Mem} {G : Lng} {i : Nat} {x : Int32} : eset (ev w M G) (1, i) (.inr (1, ([.int (M 1 i 0), .int (M 1 i 1), .int (M 1 i 2), .int (M 1 i 3), .int (M 1 i 4), .int (M 1 i 5), .int (M 1 i 6), .int (M 1 i 7)] : List Value).set 6 (.int x))) = ev w (ms M 1 i 6 x) G := es_of (by simp [ev, ms]) (fun c n hk => ⟨fun k => (ms_ne hk k).symm, rfl⟩)
theorem es_1_7 {w : Wo} {M : Mem} {G : Lng} {i : Nat} {x : Int32} : eset (ev w M G) (1, i) (.inr (1, ([.int (M 1 i 0), .int (M 1 i 1), .int (M 1 i 2), .int (M 1 i 3), .int (M 1 i 4), .int (M 1 i 5), .int (M 1 i 6), .int (M 1 i 7)] : List Value).set 7 (.int x))) = ev w (ms M 1 i 7 x) G := es_of (by simp [ev, ms]) (fun c n hk => ⟨fun k => (ms_ne hk k).symm, rfl⟩)
theorem es_2_2 {w : Wo} {M : Mem} {G : Lng} {i : Nat} {x : Int32} : eset (ev w M G) (2, i) (.inr (2, ([.ref (w.1 (4, 0)), .ref (w.1 (5, 0)), .int (M 2 i 2), .int (M 2 i 3), .int (M 2 i 4), .long (G (2, i)), .ref (w.1 (6, 0)), .ref (w.1 (7, 0)), .ref (w.1 (8, 0)), .int (M 2 i 9)] : List Value).set 2 (.int x))) = ev w (ms M 2 i 2 x) G := es_of (by simp [ev, ms]) (fun c n hk => ⟨fun k => (ms_ne hk k).symm, rfl⟩)
theorem es_2_3 {w : Wo} {M : Mem} {G : Lng} {i : Nat} {x : Int32} : eset (ev w M G) (2, i) (.inr (2, ([.ref (w.1 (4, 0)), .ref (w.1 (5, 0)), .int (M 2 i 2), .int (M 2 i 3), .int (M 2 i 4), .long (G (2, i)), .ref (w.1 (6, 0)), .ref (w.1 (7, 0)), .ref (w.1 (8, 0)), .int (M 2 i 9)] : List Value).set 3 (.int x))) = ev w (ms M 2 i 3 x) G := es_of (by simp [ev, ms]) (fun c n hk => ⟨fun k => (ms_ne hk k).symm, rfl⟩)
theorem es_2_4 {w : Wo} {M : Mem} {G : Lng} {i : Nat} {x : Int32} : eset (ev w M G) (2, i) (.inr (2, ([.ref (w.1 (4, 0)), .ref (w.1 (5, 0)), .int (M 2 i 2), .int (M 2 i 3), .int (M 2 i 4), .long (G (2, i)), .ref (w.1 (6, 0)), .ref (w.1 (7, 0)), .ref (w.1 (8, 0)), .int (M 2 i 9)] : List Value).set 4 (.int x))) = ev w (ms M 2 i 4 x) G := es_of (by simp [ev, ms]) (fun c n hk => ⟨fun k => (ms_ne hk k).symm, rfl⟩)
theorem es_2_5 {w : Wo} {M : Mem} {G : Lng} {i : Nat} {x : Int64} : eset (ev w M G) (2, i) (.inr (2, ([.ref (w.1 (4, 0)), .ref (w.1 (5, 0)), .int (M 2 i 2), .int (M 2 i 3), .int (M 2 i 4), .long (G (2, i)), .ref (w.1 (6, 0)), .ref (w.1 (7, 0)), .ref (w.1 (8, 0)), .int (M 2 i 9)] : List Value).set 5 (.long x))) = ev w M (gs G (2, i) x) := es_of (by simp [ev, gs]) (fun c n hk => ⟨fun _ => rfl, by simp [gs, hk]⟩)
theorem es_2_9 {w : Wo} {M : Mem} {G : Lng} {i : Nat} {x : Int32} : eset (ev w M G) (2, i) (.inr (2, ([.ref (w.1 (4, 0)), .ref (w.1 (5, 0)), .int (M 2 i 2), .int (M 2 i 3), .int (M 2 i 4), .long (G (2, i)), .ref (w.1 (6, 0)), .ref (w.1 (7, 0)), .ref (w.1 (8, 0)), .int (M 2 i 9)] : List Value).set 9 (.int x))) = ev w (ms M 2 i 9 x) G := es_of (by simp [ev, ms]) (fun c n hk => ⟨fun k => (ms_ne hk k).symm, rfl⟩)
theorem es_3_0 {w : Wo} {M : Mem} {G : Lng} {i : Nat} {x : Int32} : eset (ev w M G) (3, i) (.inr (3, ([.int (M 3 i 0), .int (M 3 i 1), .int (M 3 i 2), .int (M 3 i 3), .int (M 3 i 4), .long (G (3, i)), .ref (w.1 (10, 0)), .ref (w.1 (11, 0)), .ref (w.1 (12, 0)), .ref (w.1 (13, 0)), .ref (w.1 (14, 0)), .ref (w.1 (15, 0)), .ref (w.1 (16, 0)), .ref (w.1 (17, 0)), .ref (w.1 (18, 0)), .ref (w.1 (19, 0)), .ref (w.1 (20, 0)), .ref (w.1 (21, 0)), .ref (w.1 (22, 0)), .ref (w.1 (23, 0)), .ref (w.1 (24, 0)), .ref (w.1 (25, 0)), .ref (w.1 (26, 0)), .ref (w.1 (27, 0)), .ref (w.1 (28, 0)), .ref (w.1 (29, 0)), .ref (w.1 (30, 0)), .ref (w.1 (31, 0))] : List Value).set 0 (.int x))) = ev w (ms M 3 i 0 x) G := es_of (by simp [ev, ms]) (fun c n hk => ⟨fun k => (ms_ne hk k).symm, rfl⟩)
theorem es_3_1 {w : Wo} {M : Mem} {G : Lng} {i : Nat} {x : Int32} : eset (ev w M G) (3, i) (.inr (3, ([.int (M 3 i 0), .int (M 3 i 1), .int (M 3 i 2), .int (M 3 i 3), .int (M 3 i 4), .long (G (3, i)), .ref (w.1 (10, 0)), .ref (w.1 (11, 0)), .ref (w.1 (12, 0)), .ref (w.1 (13, 0)), .ref (w.1 (14, 0)), .ref (w.1 (15, 0)), .ref (w.1 (16, 0)), .ref (w.1 (17, 0)), .ref (w.1 (18, 0)), .ref (w.1 (19, 0)), .ref (w.1 (20, 0)), .ref (w.1 (21, 0)), .ref (w.1 (22, 0)), .ref (w.1 (23, 0)), .ref (w.1 (24, 0)), .ref (w.1 (25, 0)), .ref (w.1 (26, 0)), .ref (w.1 (27, 0)), .ref (w.1 (28, 0)), .ref (w.1 (29, 0)), .ref (w.1 (30, 0)), .ref (w.1 (31, 0))] : List Value).set 1 (.int x))) = ev w (ms M 3 i 1 x) G := es_of (by simp [ev, ms]) (fun c n hk => ⟨fun k => (ms_ne hk k).symm, rfl⟩)
theorem es_3_2 {w : Wo} {M : Mem} {G : Lng} {i : Nat} {x : Int32} : eset (ev w M G) (3, i) (.inr (3, ([.int (M 3 i 0), .int (M 3 i 1), .int (M 3 i 2), .int (M 3 i 3), .int (M 3 i 4), .long (G (3, i)), .ref (w.1 (10, 0)), .ref (w.1 (11, 0)), .ref (w.1 (12, 0)), .ref (w.1 (13, 0)), .ref (w.1 (14, 0)), .ref (w.1 (15, 0)), .ref (w.1 (16, 0)), .ref (w.1 (17, 0)), .ref (w.1 (18, 0)), .ref (w.1 (19, 0)), .ref (w.1 (20, 0)), .ref (w.1 (21, 0)), .ref (w.1 (22, 0)), .ref (w.1 (23, 0)), .ref (w.1 (24, 0)), .ref (w.1 (25, 0)), .ref (w.1 (26, 0)), .ref (w.1 (27, 0)), .ref (w.1 (28, 0)), .ref (w.1 (29, 0)), .ref (w.1 (30, 0)), .ref (w.1 (31, 0))] : List Value).set 2 (.int x))) = ev w (ms M 3 i 2 x) G := es_of (by simp [ev, ms]) (fun c n hk => ⟨fun k => (ms_ne hk k).symm, rfl⟩)
theorem es_3_3 {w : Wo} {M : Mem} {G : Lng} {i : Nat} {x : Int32} : eset (ev w M G) (3, i) (.inr (3, ([.int (M 3 i 0), .int (M 3 i 1), .int (M 3 i 2), .int (M 3 i 3), .int (M 3 i 4), .long (G (3, i)), .ref (w.1 (10, 0)), .ref (w.1 (11, 0)), .ref (w.1 (12, 0)), .ref (w.1 (13, 0)), .ref (w.1 (14, 0)), .ref (w.1 (15, 0)), .ref (w.1 (16, 0)), .ref (w.1 (17, 0)), .ref (w.1 (18, 0)), .ref (w.1 (19, 0)), .ref (w.1 (20, 0)), .ref (w.1 (21, 0)), .ref (w.1 (22, 0)), .ref (w.1 (23, 0)), .ref (w.1 (24, 0)), .ref (w.1 (25, 0)), .ref (w.1 (26, 0)), .ref (w.1 (27, 0)), .ref (w.1 (28, 0)), .ref (w.1 (29, 0)), .ref (w.1 (30, 0)), .ref (w.1 (31, 0))] : List Value).set 3 (.int x))) = ev w (ms M 3 i 3 x) G := es_of (by simp [ev, ms]) (fun c n hk => ⟨fun k => (ms_ne hk k).symm, rfl⟩)
theorem es_3_4 {w : Wo} {M : Mem} {G : Lng} {i : Nat} {x : Int32} : eset (ev w M G) (3, i) (.inr (3, ([.int (M 3 i 0), .int (M 3 i 1), .int (M 3 i 2), .int (M 3 i 3), .int (M 3 i 4), .long (G (3, i)), .ref (w.1 (10, 0)), .ref (w.1 (11, 0)), .ref (w.1 (12, 0)), .ref (w.1 (13, 0)), .ref (w.1 (14, 0)), .ref (w.1 (15, 0)), .ref (w.1 (16, 0)), .ref (w.1 (17, 0)), .ref (w.1 (18, 0)), .ref (w.1 (19, 0)), .ref (w.1 (20, 0)), .ref (w.1 (21, 0)), .ref (w.1 (22, 0)), .ref (w.1 (23, 0)), .ref (w.1 (24, 0)), .ref (w.1 (25, 0)), .ref (w.1 (26, 0)), .ref (w.1 (27, 0)), .ref (w.1 (28, 0)), .ref (w.1 (29, 0)), .ref (w.1 (30, 0)), .ref (w.1 (31, 0))] : List Value).set 4 (.int x))) = ev w (ms M 3 i 4 x) G := es_of (by simp [ev, ms]) (fun c n hk => ⟨fun k => (ms_ne hk k).symm, rfl⟩)
theorem es_3_5 {w : Wo} {M : Mem} {G : Lng} {i : Nat} {x : Int64} : eset (ev w M G) (3, i) (.inr (3, ([.int (M 3 i 0), .int (M 3 i 1), .int (M 3 i 2), .int (M 3 i 3), .int (M 3 i 4), .long (G (3, i)), .ref (w.1 (10, 0)), .ref (w.1 (11, 0)), .ref (w.1 (12, 0)), .ref (w.1 (13, 0)), .ref (w.1 (14, 0)), .ref (w.1 (15, 0)), .ref (w.1 (16, 0)), .ref (w.1 (17, 0)), .ref (w.1 (18, 0)), .ref (w.1 (19, 0)), .ref (w.1 (20, 0)), .ref (w.1 (21, 0)), .ref (w.1 (22, 0)), .ref (w.1 (23, 0)), .ref (w.1 (24, 0)), .ref (w.1 (25, 0)), .ref (w.1 (26, 0)), .ref (w.1 (27, 0)), .ref (w.1 (28, 0)), .ref (w.1 (29, 0)), .ref (w.1 (30, 0)), .ref (w.1 (31, 0))] : List Value).set 5 (.long x))) = ev w M (gs G (3, i) x) := es_of (by simp [ev, gs]) (fun c n hk => ⟨fun _ => rfl, by simp [gs, hk]⟩)
/-- the whole world stands -/
def WK (w : Wo) : Prop := WI w ∧ ∀ c i, i < cnt c → (c, i) ∈ w.2.1
theorem nzb (b : Bool) : narrow .boolean (.int (bi b)) = .int (bi b) := by cases b <;> rfl
theorem fzb (b : Bool) : fits .boolean (.int (bi b)) = true := by cases b <;> rfl
theorem vzb (b : Bool) : vp_nar .boolean (bi b) = bi b := by cases b <;> rfl
theorem bi_t : bi true = nI 1 := rfl
theorem bi_f : bi false = nI 0 := rfl
theorem bi_eq {b c : Bool} : bi b = bi c ↔ b = c := by cases b <;> cases c <;> decide
theorem bi0 {b : Bool} : bi b = 0 ↔ b = false := by cases b <;> decide
theorem kc_223 : Cond.constant RX2 223 2147483647 ∈ lw_tbl := tb (List.mem_of_getElem? (i := 607) (by decide +kernel))
theorem sw_104 : ((104, "an entitlement's value is out of range") : Nat × String) ∈ SW := by decide +kernel
theorem sw_109 : ((109, "no more entitlements can be added") : Nat × String) ∈ SW := by decide +kernel
theorem sw_131 : ((131, "the minimum is out of range") : Nat × String) ∈ SW := by decide +kernel
theorem sw_139 : ((139, "the entitlement is not counted by cores") : Nat × String) ∈ SW := by decide +kernel
theorem sw_145 : ((145, "the price is out of range") : Nat × String) ∈ SW := by decide +kernel
theorem sw_150 : ((150, "the number of units is out of range") : Nat × String) ∈ SW := by decide +kernel
theorem sw_155 : ((155, "the entitlement would have too many units") : Nat × String) ∈ SW := by decide +kernel
theorem sw_171 : ((171, "no entitlement fits the install") : Nat × String) ∈ SW := by decide +kernel
theorem sw_187 : ((187, "too many installs to try all assignments") : Nat × String) ∈ SW := by decide +kernel
theorem sw_204 : ((204, "the install is not covered") : Nat × String) ∈ SW := by decide +kernel
theorem sw_234 : ((234, "no install is there") : Nat × String) ∈ SW := by decide +kernel
theorem sw_241 : ((241, "no such install is there") : Nat × String) ∈ SW := by decide +kernel
theorem sw_244 : ((244, "no such entitlement") : Nat × String) ∈ SW := by decide +kernel
theorem sw_246 : ((246, "no entitlement fits some install") : Nat × String) ∈ SW := by decide +kernel
theorem sw_50 : ((50, "an install's value is out of range") : Nat × String) ∈ SW := by decide +kernel
theorem sw_64 : ((64, "no more installs can be made now") : Nat × String) ∈ SW := by decide +kernel
theorem sw_79 : ((79, "the device or the user is out of range") : Nat × String) ∈ SW := by decide +kernel
theorem sw_87 : ((87, "the version or the edition is out of range") : Nat × String) ∈ SW := by decide +kernel
theorem sw_95 : ((95, "the pool is out of range") : Nat × String) ∈ SW := by decide +kernel
theorem at_xIAE : ∀ q ∈ vx_atS "Entitled" 52 xIAE exN, q ∈ lw_tbl ∧ gw q = true ∧ vx_ot q = true := by decide +kernel
theorem at_xISE : ∀ q ∈ vx_atS "Entitled" 66 xISE exN, q ∈ lw_tbl ∧ gw q = true ∧ vx_ot q = true := by decide +kernel
theorem at_xUOE : ∀ q ∈ vx_atS "Entitled" 141 xUOE exN, q ∈ lw_tbl ∧ gw q = true ∧ vx_ot q = true := by decide +kernel
theorem at_xIOB : ∀ q ∈ vx_atS "Entitled" 243 xIOB exN, q ∈ lw_tbl ∧ gw q = true ∧ vx_ot q = true := by decide +kernel
end Help
end
section
/-! LEAF METHODS OF THE CLASS -/
section M1
def btw (a b c : Int32) : Bool := !decide (a < b) && !decide (c < a)
def rel (v e : Int32) : Bool := btw v (nI 1) (nI 9) && btw e (nI 1) (nI 3)
def hol (d : Int32) : Bool := btw d (nI 0) (nI 9)
def pol (d : Int32) : Bool := btw d (nI 0) (nI 2)
def met (m : Int32) : Bool := decide (m = nI 100) || decide (m = nI 117) || decide (m = nI 99)
theorem btw_t {a b c : Int32} (h1 : ¬ a < b) (h2 : ¬ c < a) : nI 1 = bi (btw a b c) := by simp [btw, h1, h2, bi_t]
/-- the first reason for which an entitlement doesn't fit -/
def mis (M : Mem) (e i : Nat) : Int32 :=
  if (M 0 e 0 &&& (nI 1 <<< (M 1 i 1 &&& 31))) = 0 then nI 112
  else if ¬ (M 0 e 5 = -1) ∧ ¬ (M 0 e 5 = M 1 i 7) then nI 111
  else if M 0 e 2 < M 1 i 3 ∨ (¬ (M 0 e 2 ≤ M 1 i 3) ∧ M 0 e 8 = 0) then nI 101
  else if (¬ (M 0 e 1 ≤ M 1 i 2) ∧ M 0 e 8 = 0) ∨ (¬ (M 1 i 2 ≤ M 0 e 1) ∧ M 0 e 9 = 0) then nI 118
  else nI 45
def fit (M : Mem) (e i : Nat) : Bool := !decide (M 1 i 0 = 0) && decide (mis M e i = nI 45)
set_option maxHeartbeats 4000000 in
set_option maxRecDepth 100000 in
theorem c_X2_isBetween {l : Launch} {w : Wo} {M : Mem} {G : Lng} {a b c9 : Int32} (hnt : l.stackTraces = false) (hw : WK w)  : CT l yX2_isBetween [Cond.code yX2_isBetween cX2_isBetween 3 (some .boolean)] 1 0 0 w [.int a, .int b, .int c9] M G (okO (some (.int (bi (btw a b c9)))) M G) := by
  refine CT_of hnt hw.1 mw_X2_isBetween (by simp [Value.category]) (Nat.le_of_ble_eq_true rfl) (fun p e s m args below meth c X => ?_)
  refine r_iload_n X dX2_isBetween_0 rfl rfl ?_
  refine r_iload_n X dX2_isBetween_1 rfl rfl ?_
  first | with_reducible refine r_icmpn_lt X dX2_isBetween_2 (tgt := 14) (by decide) (by omega) (by omega) (fun h1 => ?_) (fun h1 => ?_) | refine r_icmp_lt X dX2_isBetween_2 (tgt := 14) (by decide) (fun h1 => ?_) (fun h1 => ?_)
  · refine r_iconst X dX2_isBetween_14 (v := nI 0) (by decide) ?_
    refine r_zret X dX2_isBetween_15 (by first | decide | (simp only [rmv]; omega)) (by first | decide | (simp only [rmv]; omega)) (by with_reducible rfl) ?_
    first | with_reducible rfl | contradiction | (simp [btw, bi_f, bi_t, h1])
  · refine r_iload_n X dX2_isBetween_5 rfl rfl ?_
    refine r_iload_n X dX2_isBetween_6 rfl rfl ?_
    first | with_reducible refine r_icmpn_gt X dX2_isBetween_7 (tgt := 14) (by decide) (by omega) (by omega) (fun h2 => ?_) (fun h2 => ?_) | refine r_icmp_gt X dX2_isBetween_7 (tgt := 14) (by decide) (fun h2 => ?_) (fun h2 => ?_)
    · refine r_iconst X dX2_isBetween_14 (v := nI 0) (by decide) ?_
      refine r_zret X dX2_isBetween_15 (by first | decide | (simp only [rmv]; omega)) (by first | decide | (simp only [rmv]; omega)) (by with_reducible rfl) ?_
      first | with_reducible rfl | contradiction | (simp [btw, bi_f, bi_t, h1, h2])
    · refine r_iconst X dX2_isBetween_10 (v := nI 1) (by decide) ?_
      refine r_goto X dX2_isBetween_11 (tgt := 15) (by decide) ?_
      refine r_zret X dX2_isBetween_15 (by first | decide | (simp only [rmv]; omega)) (by first | decide | (simp only [rmv]; omega)) (by with_reducible rfl) ?_
      first | with_reducible rfl | contradiction | (simp [btw, bi_f, bi_t, h1, h2])

set_option maxHeartbeats 4000000 in
set_option maxRecDepth 100000 in
theorem c_X2_isRelease {l : Launch} {w : Wo} {M : Mem} {G : Lng} {v e9 : Int32} (hnt : l.stackTraces = false) (hw : WK w)  : CT l yX2_isRelease [Cond.code yX2_isRelease cX2_isRelease 2 (some .boolean)] 2 0 0 w [.int v, .int e9] M G (okO (some (.int (bi (rel v e9)))) M G) := by
  refine CT_of hnt hw.1 mw_X2_isRelease (by simp [Value.category]) (Nat.le_of_ble_eq_true rfl) (fun p e s m args below meth c X => ?_)
  refine r_iload_n X dX2_isRelease_0 rfl rfl ?_
  refine r_iconst X dX2_isRelease_1 (v := nI 1) (by decide) ?_
  refine r_bipush X dX2_isRelease_2 (v := nI 9) (by decide) ?_
  refine r_callS X (c_X2_isBetween hnt hw ) mw_X2_isBetween mi_X2_isBetween ml_X2_33 rfl rfl (Nat.le_of_ble_eq_true rfl) (by first | decide | (simp only [rmv]; omega)) (by first | decide | (simp only [rmv]; omega)) (by first | decide | (simp only [rmv]; omega)) (by first | decide | (simp only [rmv]; omega)) dX2_isRelease_4 (ko1 ?_)
  first | with_reducible refine r_ifb_eq X dX2_isRelease_7 (tgt := 23) (by decide) (fun h1 => ?_) (fun h1 => ?_) | refine r_if_eq X dX2_isRelease_7 (tgt := 23) (by decide) (fun h1 => ?_) (fun h1 => ?_)
  · refine r_iconst X dX2_isRelease_23 (v := nI 0) (by decide) ?_
    refine r_zret X dX2_isRelease_24 (by first | decide | (simp only [rmv]; omega)) (by first | decide | (simp only [rmv]; omega)) (by with_reducible rfl) ?_
    first | with_reducible rfl | contradiction | (simp [rel, bi_f, bi_t, h1])
  · refine r_iload_n X dX2_isRelease_10 rfl rfl ?_
    refine r_iconst X dX2_isRelease_11 (v := nI 1) (by decide) ?_
    refine r_iconst X dX2_isRelease_12 (v := nI 3) (by decide) ?_
    refine r_callS X (c_X2_isBetween hnt hw ) mw_X2_isBetween mi_X2_isBetween ml_X2_33 rfl rfl (Nat.le_of_ble_eq_true rfl) (by first | decide | (simp only [rmv]; omega)) (by first | decide | (simp only [rmv]; omega)) (by first | decide | (simp only [rmv]; omega)) (by first | decide | (simp only [rmv]; omega)) dX2_isRelease_13 (ko1 ?_)
    first | with_reducible refine r_ifb_eq X dX2_isRelease_16 (tgt := 23) (by decide) (fun h2 => ?_) (fun h2 => ?_) | refine r_if_eq X dX2_isRelease_16 (tgt := 23) (by decide) (fun h2 => ?_) (fun h2 => ?_)
    · refine r_iconst X dX2_isRelease_23 (v := nI 0) (by decide) ?_
      refine r_zret X dX2_isRelease_24 (by first | decide | (simp only [rmv]; omega)) (by first | decide | (simp only [rmv]; omega)) (by with_reducible rfl) ?_
      first | with_reducible rfl | contradiction | (simp [rel, bi_f, bi_t, h1, h2])
    · refine r_iconst X dX2_isRelease_19 (v := nI 1) (by decide) ?_
      refine r_goto X dX2_isRelease_20 (tgt := 24) (by decide) ?_
      refine r_zret X dX2_isRelease_24 (by first | decide | (simp only [rmv]; omega)) (by first | decide | (simp only [rmv]; omega)) (by with_reducible rfl) ?_
      first | with_reducible rfl | contradiction | (simp [rel, bi_f, bi_t, h1, h2])

set_option maxHeartbeats 4000000 in
set_option maxRecDepth 100000 in
theorem c_X2_isHolder {l : Launch} {w : Wo} {M : Mem} {G : Lng} {v : Int32} (hnt : l.stackTraces = false) (hw : WK w)  : CT l yX2_isHolder [Cond.code yX2_isHolder cX2_isHolder 1 (some .boolean)] 2 0 0 w [.int v] M G (okO (some (.int (bi (hol v)))) M G) := by
  refine CT_of hnt hw.1 mw_X2_isHolder (by simp [Value.category]) (Nat.le_of_ble_eq_true rfl) (fun p e s m args below meth c X => ?_)
  refine r_iload_n X dX2_isHolder_0 rfl rfl ?_
  refine r_iconst X dX2_isHolder_1 (v := nI 0) (by decide) ?_
  refine r_bipush X dX2_isHolder_2 (v := nI 9) (by decide) ?_
  refine r_callS X (c_X2_isBetween hnt hw ) mw_X2_isBetween mi_X2_isBetween ml_X2_33 rfl rfl (Nat.le_of_ble_eq_true rfl) (by first | decide | (simp only [rmv]; omega)) (by first | decide | (simp only [rmv]; omega)) (by first | decide | (simp only [rmv]; omega)) (by first | decide | (simp only [rmv]; omega)) dX2_isHolder_4 (ko1 ?_)
  refine r_zret X dX2_isHolder_7 (by first | decide | (simp only [rmv]; omega)) (by first | decide | (simp only [rmv]; omega)) (by with_reducible rfl) ?_
  first | with_reducible rfl | contradiction | (simp [hol, bi_f, bi_t])

set_option maxHeartbeats 4000000 in
set_option maxRecDepth 100000 in
theorem c_X2_isPool {l : Launch} {w : Wo} {M : Mem} {G : Lng} {v : Int32} (hnt : l.stackTraces = false) (hw : WK w)  : CT l yX2_isPool [Cond.code yX2_isPool cX2_isPool 1 (some .boolean)] 2 0 0 w [.int v] M G (okO (some (.int (bi (pol v)))) M G) := by
  refine CT_of hnt hw.1 mw_X2_isPool (by simp [Value.category]) (Nat.le_of_ble_eq_true rfl) (fun p e s m args below meth c X => ?_)
  refine r_iload_n X dX2_isPool_0 rfl rfl ?_
  refine r_iconst X dX2_isPool_1 (v := nI 0) (by decide) ?_
  refine r_iconst X dX2_isPool_2 (v := nI 2) (by decide) ?_
  refine r_callS X (c_X2_isBetween hnt hw ) mw_X2_isBetween mi_X2_isBetween ml_X2_33 rfl rfl (Nat.le_of_ble_eq_true rfl) (by first | decide | (simp only [rmv]; omega)) (by first | decide | (simp only [rmv]; omega)) (by first | decide | (simp only [rmv]; omega)) (by first | decide | (simp only [rmv]; omega)) dX2_isPool_3 (ko1 ?_)
  refine r_zret X dX2_isPool_6 (by first | decide | (simp only [rmv]; omega)) (by first | decide | (simp only [rmv]; omega)) (by with_reducible rfl) ?_
  first | with_reducible rfl | contradiction | (simp [pol, bi_f, bi_t])

set_option maxHeartbeats 4000000 in
set_option maxRecDepth 100000 in
theorem c_X2_isMetric {l : Launch} {w : Wo} {M : Mem} {G : Lng} {v : Int32} (hnt : l.stackTraces = false) (hw : WK w)  : CT l yX2_isMetric [Cond.code yX2_isMetric cX2_isMetric 1 (some .boolean)] 1 0 0 w [.int v] M G (okO (some (.int (bi (met v)))) M G) := by
  refine CT_of hnt hw.1 mw_X2_isMetric (by simp [Value.category]) (Nat.le_of_ble_eq_true rfl) (fun p e s m args below meth c X => ?_)
  refine r_iload_n X dX2_isMetric_0 rfl rfl ?_
  refine r_bipush X dX2_isMetric_1 (v := nI 100) (by decide) ?_
  first | with_reducible refine r_icmpn_eq X dX2_isMetric_3 (tgt := 18) (by decide) (by omega) (by omega) (fun h1 => ?_) (fun h1 => ?_) | refine r_icmp_eq X dX2_isMetric_3 (tgt := 18) (by decide) (fun h1 => ?_) (fun h1 => ?_)
  · refine r_iconst X dX2_isMetric_18 (v := nI 1) (by decide) ?_
    refine r_goto X dX2_isMetric_19 (tgt := 23) (by decide) ?_
    refine r_zret X dX2_isMetric_23 (by first | decide | (simp only [rmv]; omega)) (by first | decide | (simp only [rmv]; omega)) (by with_reducible rfl) ?_
    first | with_reducible rfl | contradiction | (simp [met, bi_f, bi_t, h1])
  · refine r_iload_n X dX2_isMetric_6 rfl rfl ?_
    refine r_bipush X dX2_isMetric_7 (v := nI 117) (by decide) ?_
    first | with_reducible refine r_icmpn_eq X dX2_isMetric_9 (tgt := 18) (by decide) (by omega) (by omega) (fun h2 => ?_) (fun h2 => ?_) | refine r_icmp_eq X dX2_isMetric_9 (tgt := 18) (by decide) (fun h2 => ?_) (fun h2 => ?_)
    · refine r_iconst X dX2_isMetric_18 (v := nI 1) (by decide) ?_
      refine r_goto X dX2_isMetric_19 (tgt := 23) (by decide) ?_
      refine r_zret X dX2_isMetric_23 (by first | decide | (simp only [rmv]; omega)) (by first | decide | (simp only [rmv]; omega)) (by with_reducible rfl) ?_
      first | with_reducible rfl | contradiction | (simp [met, bi_f, bi_t, h1, h2])
    · refine r_iload_n X dX2_isMetric_12 rfl rfl ?_
      refine r_bipush X dX2_isMetric_13 (v := nI 99) (by decide) ?_
      first | with_reducible refine r_icmpn_ne X dX2_isMetric_15 (tgt := 22) (by decide) (by omega) (by omega) (fun h3 => ?_) (fun h3 => ?_) | refine r_icmp_ne X dX2_isMetric_15 (tgt := 22) (by decide) (fun h3 => ?_) (fun h3 => ?_)
      · refine r_iconst X dX2_isMetric_22 (v := nI 0) (by decide) ?_
        refine r_zret X dX2_isMetric_23 (by first | decide | (simp only [rmv]; omega)) (by first | decide | (simp only [rmv]; omega)) (by with_reducible rfl) ?_
        first | with_reducible rfl | contradiction | (simp [met, bi_f, bi_t, h1, h2, h3])
      · refine r_iconst X dX2_isMetric_18 (v := nI 1) (by decide) ?_
        refine r_goto X dX2_isMetric_19 (tgt := 23) (by decide) ?_
        refine r_zret X dX2_isMetric_23 (by first | decide | (simp only [rmv]; omega)) (by first | decide | (simp only [rmv]; omega)) (by with_reducible rfl) ?_
        first | with_reducible rfl | contradiction | (simp [met, bi_f, bi_t, h1, h2, h3])

set_option maxHeartbeats 4000000 in
set_option maxRecDepth 100000 in
theorem c_X0_misfit {l : Launch} {w : Wo} {M : Mem} {G : Lng} {e9 i : Nat} (hnt : l.stackTraces = false) (hw : WK w) (he : e9 < 5) (hi : i < 12) : CT l yX0_misfit [Cond.code yX0_misfit cX0_misfit 2 (some .char)] 1 0 0 w [.ref (w.1 (0, e9)), .ref (w.1 (1, i))] M G (okO (some (.int (mis M e9 i))) M G) := by
  refine CT_of hnt hw.1 mw_X0_misfit (by simp [Value.category]) (Nat.le_of_ble_eq_true rfl) (fun p e s m args below meth c X => ?_)
  refine r_aload_n X dX0_misfit_0 rfl rfl ?_
  refine r_get X kc0 (j := 0) (hw.2 _ _ (by first | decide | (simp [cnt] <;> omega))) ev0 (by decide) rfl fl_X0_15 dX0_misfit_1 ?_
  refine r_iconst X dX0_misfit_4 (v := nI 1) (by decide) ?_
  refine r_aload_n X dX0_misfit_5 rfl rfl ?_
  refine r_getN X kc1 (j := 1) (hw.2 _ _ (by first | decide | (simp [cnt] <;> omega))) ev1 (by decide) rfl fl_X0_60 dX0_misfit_6 ?_
  refine r_ishl X dX0_misfit_9 ?_
  refine r_iand X dX0_misfit_10 ?_
  first | with_reducible refine r_ifb_ne X dX0_misfit_11 (tgt := 17) (by decide) (fun h1 => ?_) (fun h1 => ?_) | refine r_if_ne X dX0_misfit_11 (tgt := 17) (by decide) (fun h1 => ?_) (fun h1 => ?_)
  · refine r_aload_n X dX0_misfit_17 rfl rfl ?_
    refine r_get X kc0 (j := 5) (hw.2 _ _ (by first | decide | (simp [cnt] <;> omega))) ev0 (by decide) rfl fl_X0_32 dX0_misfit_18 ?_
    refine r_iconst X dX0_misfit_21 (v := -1) (by decide) ?_
    first | with_reducible refine r_icmpn_eq X dX0_misfit_22 (tgt := 39) (by decide) (by omega) (by omega) (fun h2 => ?_) (fun h2 => ?_) | refine r_icmp_eq X dX0_misfit_22 (tgt := 39) (by decide) (fun h2 => ?_) (fun h2 => ?_)
    · refine r_aload_n X dX0_misfit_39 rfl rfl ?_
      refine r_getN X kc1 (j := 3) (hw.2 _ _ (by first | decide | (simp [cnt] <;> omega))) ev1 (by decide) rfl fl_X0_64 dX0_misfit_40 ?_
      refine r_aload_n X dX0_misfit_43 rfl rfl ?_
      refine r_get X kc0 (j := 2) (hw.2 _ _ (by first | decide | (simp [cnt] <;> omega))) ev0 (by decide) rfl fl_X0_22 dX0_misfit_44 ?_
      first | with_reducible refine r_icmpn_gt X dX0_misfit_47 (tgt := 68) (by decide) (by omega) (by omega) (fun h3 => ?_) (fun h3 => ?_) | refine r_icmp_gt X dX0_misfit_47 (tgt := 68) (by decide) (fun h3 => ?_) (fun h3 => ?_)
      · refine r_bipush X dX0_misfit_68 (v := nI 101) (by decide) ?_
        refine r_cret X dX0_misfit_70 (by first | rfl | assumption) (by first | decide | (simp only [rmv]; omega)) (by first | decide | (simp only [rmv]; omega)) ?_
        first | with_reducible rfl | contradiction | (simp [mis, h1, h2, h3])
      · refine r_aload_n X dX0_misfit_50 rfl rfl ?_
        refine r_getN X kc1 (j := 3) (hw.2 _ _ (by first | decide | (simp [cnt] <;> omega))) ev1 (by decide) rfl fl_X0_64 dX0_misfit_51 ?_
        refine r_aload_n X dX0_misfit_54 rfl rfl ?_
        refine r_get X kc0 (j := 2) (hw.2 _ _ (by first | decide | (simp [cnt] <;> omega))) ev0 (by decide) rfl fl_X0_22 dX0_misfit_55 ?_
        first | with_reducible refine r_icmpn_ge X dX0_misfit_58 (tgt := 71) (by decide) (by omega) (by omega) (fun h4 => ?_) (fun h4 => ?_) | refine r_icmp_ge X dX0_misfit_58 (tgt := 71) (by decide) (fun h4 => ?_) (fun h4 => ?_)
        · refine r_aload_n X dX0_misfit_71 rfl rfl ?_
          refine r_getN X kc1 (j := 2) (hw.2 _ _ (by first | decide | (simp [cnt] <;> omega))) ev1 (by decide) rfl fl_X0_65 dX0_misfit_72 ?_
          refine r_aload_n X dX0_misfit_75 rfl rfl ?_
          refine r_get X kc0 (j := 1) (hw.2 _ _ (by first | decide | (simp [cnt] <;> omega))) ev0 (by decide) rfl fl_X0_19 dX0_misfit_76 ?_
          first | with_reducible refine r_icmpn_ge X dX0_misfit_79 (tgt := 89) (by decide) (by omega) (by omega) (fun h5 => ?_) (fun h5 => ?_) | refine r_icmp_ge X dX0_misfit_79 (tgt := 89) (by decide) (fun h5 => ?_) (fun h5 => ?_)
          · refine r_aload_n X dX0_misfit_89 rfl rfl ?_
            refine r_getN X kc1 (j := 2) (hw.2 _ _ (by first | decide | (simp [cnt] <;> omega))) ev1 (by decide) rfl fl_X0_65 dX0_misfit_90 ?_
            refine r_aload_n X dX0_misfit_93 rfl rfl ?_
            refine r_get X kc0 (j := 1) (hw.2 _ _ (by first | decide | (simp [cnt] <;> omega))) ev0 (by decide) rfl fl_X0_19 dX0_misfit_94 ?_
            first | with_reducible refine r_icmpn_le X dX0_misfit_97 (tgt := 110) (by decide) (by omega) (by omega) (fun h6 => ?_) (fun h6 => ?_) | refine r_icmp_le X dX0_misfit_97 (tgt := 110) (by decide) (fun h6 => ?_) (fun h6 => ?_)
            · refine r_bipush X dX0_misfit_110 (v := nI 45) (by decide) ?_
              refine r_cret X dX0_misfit_112 (by first | rfl | assumption) (by first | decide | (simp only [rmv]; omega)) (by first | decide | (simp only [rmv]; omega)) ?_
              first | with_reducible rfl | contradiction | (simp [mis, h1, h2, h3, h4, h5, h6])
            · refine r_aload_n X dX0_misfit_100 rfl rfl ?_
              refine r_get X kc0 (j := 9) (hw.2 _ _ (by first | decide | (simp [cnt] <;> omega))) ev0 (by decide) rfl fl_X0_45 dX0_misfit_101 ?_
              first | with_reducible refine r_ifb_ne X dX0_misfit_104 (tgt := 110) (by decide) (fun h7 => ?_) (fun h7 => ?_) | refine r_if_ne X dX0_misfit_104 (tgt := 110) (by decide) (fun h7 => ?_) (fun h7 => ?_)
              · refine r_bipush X dX0_misfit_110 (v := nI 45) (by decide) ?_
                refine r_cret X dX0_misfit_112 (by first | rfl | assumption) (by first | decide | (simp only [rmv]; omega)) (by first | decide | (simp only [rmv]; omega)) ?_
                first | with_reducible rfl | contradiction | (simp [mis, h1, h2, h3, h4, h5, h6, h7])
              · refine r_bipush X dX0_misfit_107 (v := nI 118) (by decide) ?_
                refine r_cret X dX0_misfit_109 (by first | rfl | assumption) (by first | decide | (simp only [rmv]; omega)) (by first | decide | (simp only [rmv]; omega)) ?_
                first | with_reducible rfl | contradiction | (simp [mis, h1, h2, h3, h4, h5, h6, h7])
          · refine r_aload_n X dX0_misfit_82 rfl rfl ?_
            refine r_get X kc0 (j := 8) (hw.2 _ _ (by first | decide | (simp [cnt] <;> omega))) ev0 (by decide) rfl fl_X0_41 dX0_misfit_83 ?_
            first | with_reducible refine r_ifb_eq X dX0_misfit_86 (tgt := 107) (by decide) (fun h8 => ?_) (fun h8 => ?_) | refine r_if_eq X dX0_misfit_86 (tgt := 107) (by decide) (fun h8 => ?_) (fun h8 => ?_)
            · refine r_bipush X dX0_misfit_107 (v := nI 118) (by decide) ?_
              refine r_cret X dX0_misfit_109 (by first | rfl | assumption) (by first | decide | (simp only [rmv]; omega)) (by first | decide | (simp only [rmv]; omega)) ?_
              first | with_reducible rfl | contradiction | (simp [mis, h1, h2, h3, h4, h5, h8])
            · refine r_aload_n X dX0_misfit_89 rfl rfl ?_
              refine r_getN X kc1 (j := 2) (hw.2 _ _ (by first | decide | (simp [cnt] <;> omega))) ev1 (by decide) rfl fl_X0_65 dX0_misfit_90 ?_
              refine r_aload_n X dX0_misfit_93 rfl rfl ?_
              refine r_get X kc0 (j := 1) (hw.2 _ _ (by first | decide | (simp [cnt] <;> omega))) ev0 (by decide) rfl fl_X0_19 dX0_misfit_94 ?_
              first | with_reducible refine r_icmpn_le X dX0_misfit_97 (tgt := 110) (by decide) (by omega) (by omega) (fun h9 => ?_) (fun h9 => ?_) | refine r_icmp_le X dX0_misfit_97 (tgt := 110) (by decide) (fun h9 => ?_) (fun h9 => ?_)
              · refine r_bipush X dX0_misfit_110 (v := nI 45) (by decide) ?_
                refine r_cret X dX0_misfit_112 (by first | rfl | assumption) (by first | decide | (simp only [rmv]; omega)) (by first | decide | (simp only [rmv]; omega)) ?_
                first | with_reducible rfl | contradiction | (simp [mis, h1, h2, h3, h4, h5, h8, h9])
              · refine r_aload_n X dX0_misfit_100 rfl rfl ?_
                refine r_get X kc0 (j := 9) (hw.2 _ _ (by first | decide | (simp [cnt] <;> omega))) ev0 (by decide) rfl fl_X0_45 dX0_misfit_101 ?_
                first | with_reducible refine r_ifb_ne X dX0_misfit_104 (tgt := 110) (by decide) (fun h10 => ?_) (fun h10 => ?_) | refine r_if_ne X dX0_misfit_104 (tgt := 110) (by decide) (fun h10 => ?_) (fun h10 => ?_)
                · refine r_bipush X dX0_misfit_110 (v := nI 45) (by decide) ?_
                  refine r_cret X dX0_misfit_112 (by first | rfl | assumption) (by first | decide | (simp only [rmv]; omega)) (by first | decide | (simp only [rmv]; omega)) ?_
                  first | with_reducible rfl | contradiction | (simp [mis, h1, h2, h3, h4, h5, h8, h9, h10])
                · refine r_bipush X dX0_misfit_107 (v := nI 118) (by decide) ?_
                  refine r_cret X dX0_misfit_109 (by first | rfl | assumption) (by first | decide | (simp only [rmv]; omega)) (by first | decide | (simp only [rmv]; omega)) ?_
                  first | with_reducible rfl | contradiction | (simp [mis, h1, h2, h3, h4, h5, h8, h9, h10])
        · refine r_aload_n X dX0_misfit_61 rfl rfl ?_
          refine r_get X kc0 (j := 8) (hw.2 _ _ (by first | decide | (simp [cnt] <;> omega))) ev0 (by decide) rfl fl_X0_41 dX0_misfit_62 ?_
          first | with_reducible refine r_ifb_ne X dX0_misfit_65 (tgt := 71) (by decide) (fun h11 => ?_) (fun h11 => ?_) | refine r_if_ne X dX0_misfit_65 (tgt := 71) (by decide) (fun h11 => ?_) (fun h11 => ?_)
          · refine r_aload_n X dX0_misfit_71 rfl rfl ?_
            refine r_getN X kc1 (j := 2) (hw.2 _ _ (by first | decide | (simp [cnt] <;> omega))) ev1 (by decide) rfl fl_X0_65 dX0_misfit_72 ?_
            refine r_aload_n X dX0_misfit_75 rfl rfl ?_
            refine r_get X kc0 (j := 1) (hw.2 _ _ (by first | decide | (simp [cnt] <;> omega))) ev0 (by decide) rfl fl_X0_19 dX0_misfit_76 ?_
            first | with_reducible refine r_icmpn_ge X dX0_misfit_79 (tgt := 89) (by decide) (by omega) (by omega) (fun h12 => ?_) (fun h12 => ?_) | refine r_icmp_ge X dX0_misfit_79 (tgt := 89) (by decide) (fun h12 => ?_) (fun h12 => ?_)
            · refine r_aload_n X dX0_misfit_89 rfl rfl ?_
              refine r_getN X kc1 (j := 2) (hw.2 _ _ (by first | decide | (simp [cnt] <;> omega))) ev1 (by decide) rfl fl_X0_65 dX0_misfit_90 ?_
              refine r_aload_n X dX0_misfit_93 rfl rfl ?_
              refine r_get X kc0 (j := 1) (hw.2 _ _ (by first | decide | (simp [cnt] <;> omega))) ev0 (by decide) rfl fl_X0_19 dX0_misfit_94 ?_
              first | with_reducible refine r_icmpn_le X dX0_misfit_97 (tgt := 110) (by decide) (by omega) (by omega) (fun h13 => ?_) (fun h13 => ?_) | refine r_icmp_le X dX0_misfit_97 (tgt := 110) (by decide) (fun h13 => ?_) (fun h13 => ?_)
              · refine r_bipush X dX0_misfit_110 (v := nI 45) (by decide) ?_
                refine r_cret X dX0_misfit_112 (by first | rfl | assumption) (by first | decide | (simp only [rmv]; omega)) (by first | decide | (simp only [rmv]; omega)) ?_
                first | with_reducible rfl | contradiction | (simp [mis, h1, h2, h3, h4, h11, h12, h13])
              · refine r_aload_n X dX0_misfit_100 rfl rfl ?_
                refine r_get X kc0 (j := 9) (hw.2 _ _ (by first | decide | (simp [cnt] <;> omega))) ev0 (by decide) rfl fl_X0_45 dX0_misfit_101 ?_
                first | with_reducible refine r_ifb_ne X dX0_misfit_104 (tgt := 110) (by decide) (fun h14 => ?_) (fun h14 => ?_) | refine r_if_ne X dX0_misfit_104 (tgt := 110) (by decide) (fun h14 => ?_) (fun h14 => ?_)
                · refine r_bipush X dX0_misfit_110 (v := nI 45) (by decide) ?_
                  refine r_cret X dX0_misfit_112 (by first | rfl | assumption) (by first | decide | (simp only [rmv]; omega)) (by first | decide | (simp only [rmv]; omega)) ?_
                  first | with_reducible rfl | contradiction | (simp [mis, h1, h2, h3, h4, h11, h12, h13, h14])
                · refine r_bipush X dX0_misfit_107 (v := nI 118) (by decide) ?_
                  refine r_cret X dX0_misfit_109 (by first | rfl | assumption) (by first | decide | (simp only [rmv]; omega)) (by first | decide | (simp only [rmv]; omega)) ?_
                  first | with_reducible rfl | contradiction | (simp [mis, h1, h2, h3, h4, h11, h12, h13, h14])
            · refine r_aload_n X dX0_misfit_82 rfl rfl ?_
              refine r_get X kc0 (j := 8) (hw.2 _ _ (by first | decide | (simp [cnt] <;> omega))) ev0 (by decide) rfl fl_X0_41 dX0_misfit_83 ?_
              first | with_reducible refine r_ifb_eq X dX0_misfit_86 (tgt := 107) (by decide) (fun h15 => ?_) (fun h15 => ?_) | refine r_if_eq X dX0_misfit_86 (tgt := 107) (by decide) (fun h15 => ?_) (fun h15 => ?_)
              · refine r_bipush X dX0_misfit_107 (v := nI 118) (by decide) ?_
                refine r_cret X dX0_misfit_109 (by first | rfl | assumption) (by first | decide | (simp only [rmv]; omega)) (by first | decide | (simp only [rmv]; omega)) ?_
                first | with_reducible rfl | contradiction | (simp [mis, h1, h2, h3, h4, h11, h12, h15])
              · refine r_aload_n X dX0_misfit_89 rfl rfl ?_
                refine r_getN X kc1 (j := 2) (hw.2 _ _ (by first | decide | (simp [cnt] <;> omega))) ev1 (by decide) rfl fl_X0_65 dX0_misfit_90 ?_
                refine r_aload_n X dX0_misfit_93 rfl rfl ?_
                refine r_get X kc0 (j := 1) (hw.2 _ _ (by first | decide | (simp [cnt] <;> omega))) ev0 (by decide) rfl fl_X0_19 dX0_misfit_94 ?_
                first | with_reducible refine r_icmpn_le X dX0_misfit_97 (tgt := 110) (by decide) (by omega) (by omega) (fun h16 => ?_) (fun h16 => ?_) | refine r_icmp_le X dX0_misfit_97 (tgt := 110) (by decide) (fun h16 => ?_) (fun h16 => ?_)
                · refine r_bipush X dX0_misfit_110 (v := nI 45) (by decide) ?_
                  refine r_cret X dX0_misfit_112 (by first | rfl | assumption) (by first | decide | (simp only [rmv]; omega)) (by first | decide | (simp only [rmv]; omega)) ?_
                  first | with_reducible rfl | contradiction | (simp [mis, h1, h2, h3, h4, h11, h12, h15, h16])
                · refine r_aload_n X dX0_misfit_100 rfl rfl ?_
                  refine r_get X kc0 (j := 9) (hw.2 _ _ (by first | decide | (simp [cnt] <;> omega))) ev0 (by decide) rfl fl_X0_45 dX0_misfit_101 ?_
                  first | with_reducible refine r_ifb_ne X dX0_misfit_104 (tgt := 110) (by decide) (fun h17 => ?_) (fun h17 => ?_) | refine r_if_ne X dX0_misfit_104 (tgt := 110) (by decide) (fun h17 => ?_) (fun h17 => ?_)
                  · refine r_bipush X dX0_misfit_110 (v := nI 45) (by decide) ?_
                    refine r_cret X dX0_misfit_112 (by first | rfl | assumption) (by first | decide | (simp only [rmv]; omega)) (by first | decide | (simp only [rmv]; omega)) ?_
                    first | with_reducible rfl | contradiction | (simp [mis, h1, h2, h3, h4, h11, h12, h15, h16, h17])
                  · refine r_bipush X dX0_misfit_107 (v := nI 118) (by decide) ?_
                    refine r_cret X dX0_misfit_109 (by first | rfl | assumption) (by first | decide | (simp only [rmv]; omega)) (by first | decide | (simp only [rmv]; omega)) ?_
                    first | with_reducible rfl | contradiction | (simp [mis, h1, h2, h3, h4, h11, h12, h15, h16, h17])
          · refine r_bipush X dX0_misfit_68 (v := nI 101) (by decide) ?_
            refine r_cret X dX0_misfit_70 (by first | rfl | assumption) (by first | decide | (simp only [rmv]; omega)) (by first | decide | (simp only [rmv]; omega)) ?_
            first | with_reducible rfl | contradiction | (simp [mis, h1, h2, h3, h4, h11])
    · refine r_aload_n X dX0_misfit_25 rfl rfl ?_
      refine r_get X kc0 (j := 5) (hw.2 _ _ (by first | decide | (simp [cnt] <;> omega))) ev0 (by decide) rfl fl_X0_32 dX0_misfit_26 ?_
      refine r_aload_n X dX0_misfit_29 rfl rfl ?_
      refine r_getN X kc1 (j := 7) (hw.2 _ _ (by first | decide | (simp [cnt] <;> omega))) ev1 (by decide) rfl fl_X0_63 dX0_misfit_30 ?_
      first | with_reducible refine r_icmpn_eq X dX0_misfit_33 (tgt := 39) (by decide) (by omega) (by omega) (fun h18 => ?_) (fun h18 => ?_) | refine r_icmp_eq X dX0_misfit_33 (tgt := 39) (by decide) (fun h18 => ?_) (fun h18 => ?_)
      · refine r_aload_n X dX0_misfit_39 rfl rfl ?_
        refine r_getN X kc1 (j := 3) (hw.2 _ _ (by first | decide | (simp [cnt] <;> omega))) ev1 (by decide) rfl fl_X0_64 dX0_misfit_40 ?_
        refine r_aload_n X dX0_misfit_43 rfl rfl ?_
        refine r_get X kc0 (j := 2) (hw.2 _ _ (by first | decide | (simp [cnt] <;> omega))) ev0 (by decide) rfl fl_X0_22 dX0_misfit_44 ?_
        first | with_reducible refine r_icmpn_gt X dX0_misfit_47 (tgt := 68) (by decide) (by omega) (by omega) (fun h19 => ?_) (fun h19 => ?_) | refine r_icmp_gt X dX0_misfit_47 (tgt := 68) (by decide) (fun h19 => ?_) (fun h19 => ?_)
        · refine r_bipush X dX0_misfit_68 (v := nI 101) (by decide) ?_
          refine r_cret X dX0_misfit_70 (by first | rfl | assumption) (by first | decide | (simp only [rmv]; omega)) (by first | decide | (simp only [rmv]; omega)) ?_
          first | with_reducible rfl | contradiction | (simp [mis, h1, h2, h18, h19])
        · refine r_aload_n X dX0_misfit_50 rfl rfl ?_
          refine r_getN X kc1 (j := 3) (hw.2 _ _ (by first | decide | (simp [cnt] <;> omega))) ev1 (by decide) rfl fl_X0_64 dX0_misfit_51 ?_
          refine r_aload_n X dX0_misfit_54 rfl rfl ?_
          refine r_get X kc0 (j := 2) (hw.2 _ _ (by first | decide | (simp [cnt] <;> omega))) ev0 (by decide) rfl fl_X0_22 dX0_misfit_55 ?_
          first | with_reducible refine r_icmpn_ge X dX0_misfit_58 (tgt := 71) (by decide) (by omega) (by omega) (fun h20 => ?_) (fun h20 => ?_) | refine r_icmp_ge X dX0_misfit_58 (tgt := 71) (by decide) (fun h20 => ?_) (fun h20 => ?_)
          · refine r_aload_n X dX0_misfit_71 rfl rfl ?_
            refine r_getN X kc1 (j := 2) (hw.2 _ _ (by first | decide | (simp [cnt] <;> omega))) ev1 (by decide) rfl fl_X0_65 dX0_misfit_72 ?_
            refine r_aload_n X dX0_misfit_75 rfl rfl ?_
            refine r_get X kc0 (j := 1) (hw.2 _ _ (by first | decide | (simp [cnt] <;> omega))) ev0 (by decide) rfl fl_X0_19 dX0_misfit_76 ?_
            first | with_reducible refine r_icmpn_ge X dX0_misfit_79 (tgt := 89) (by decide) (by omega) (by omega) (fun h21 => ?_) (fun h21 => ?_) | refine r_icmp_ge X dX0_misfit_79 (tgt := 89) (by decide) (fun h21 => ?_) (fun h21 => ?_)
            · refine r_aload_n X dX0_misfit_89 rfl rfl ?_
              refine r_getN X kc1 (j := 2) (hw.2 _ _ (by first | decide | (simp [cnt] <;> omega))) ev1 (by decide) rfl fl_X0_65 dX0_misfit_90 ?_
              refine r_aload_n X dX0_misfit_93 rfl rfl ?_
              refine r_get X kc0 (j := 1) (hw.2 _ _ (by first | decide | (simp [cnt] <;> omega))) ev0 (by decide) rfl fl_X0_19 dX0_misfit_94 ?_
              first | with_reducible refine r_icmpn_le X dX0_misfit_97 (tgt := 110) (by decide) (by omega) (by omega) (fun h22 => ?_) (fun h22 => ?_) | refine r_icmp_le X dX0_misfit_97 (tgt := 110) (by decide) (fun h22 => ?_) (fun h22 => ?_)
              · refine r_bipush X dX0_misfit_110 (v := nI 45) (by decide) ?_
                refine r_cret X dX0_misfit_112 (by first | rfl | assumption) (by first | decide | (simp only [rmv]; omega)) (by first | decide | (simp only [rmv]; omega)) ?_
                first | with_reducible rfl | contradiction | (simp [mis, h1, h2, h18, h19, h20, h21, h22])
              · refine r_aload_n X dX0_misfit_100 rfl rfl ?_
                refine r_get X kc0 (j := 9) (hw.2 _ _ (by first | decide | (simp [cnt] <;> omega))) ev0 (by decide) rfl fl_X0_45 dX0_misfit_101 ?_
                first | with_reducible refine r_ifb_ne X dX0_misfit_104 (tgt := 110) (by decide) (fun h23 => ?_) (fun h23 => ?_) | refine r_if_ne X dX0_misfit_104 (tgt := 110) (by decide) (fun h23 => ?_) (fun h23 => ?_)
                · refine r_bipush X dX0_misfit_110 (v := nI 45) (by decide) ?_
                  refine r_cret X dX0_misfit_112 (by first | rfl | assumption) (by first | decide | (simp only [rmv]; omega)) (by first | decide | (simp only [rmv]; omega)) ?_
                  first | with_reducible rfl | contradiction | (simp [mis, h1, h2, h18, h19, h20, h21, h22, h23])
                · refine r_bipush X dX0_misfit_107 (v := nI 118) (by decide) ?_
                  refine r_cret X dX0_misfit_109 (by first | rfl | assumption) (by first | decide | (simp only [rmv]; omega)) (by first | decide | (simp only [rmv]; omega)) ?_
                  first | with_reducible rfl | contradiction | (simp [mis, h1, h2, h18, h19, h20, h21, h22, h23])
            · refine r_aload_n X dX0_misfit_82 rfl rfl ?_
              refine r_get X kc0 (j := 8) (hw.2 _ _ (by first | decide | (simp [cnt] <;> omega))) ev0 (by decide) rfl fl_X0_41 dX0_misfit_83 ?_
              first | with_reducible refine r_ifb_eq X dX0_misfit_86 (tgt := 107) (by decide) (fun h24 => ?_) (fun h24 => ?_) | refine r_if_eq X dX0_misfit_86 (tgt := 107) (by decide) (fun h24 => ?_) (fun h24 => ?_)
              · refine r_bipush X dX0_misfit_107 (v := nI 118) (by decide) ?_
                refine r_cret X dX0_misfit_109 (by first | rfl | assumption) (by first | decide | (simp only [rmv]; omega)) (by first | decide | (simp only [rmv]; omega)) ?_
                first | with_reducible rfl | contradiction | (simp [mis, h1, h2, h18, h19, h20, h21, h24])
              · refine r_aload_n X dX0_misfit_89 rfl rfl ?_
                refine r_getN X kc1 (j := 2) (hw.2 _ _ (by first | decide | (simp [cnt] <;> omega))) ev1 (by decide) rfl fl_X0_65 dX0_misfit_90 ?_
                refine r_aload_n X dX0_misfit_93 rfl rfl ?_
                refine r_get X kc0 (j := 1) (hw.2 _ _ (by first | decide | (simp [cnt] <;> omega))) ev0 (by decide) rfl fl_X0_19 dX0_misfit_94 ?_
                first | with_reducible refine r_icmpn_le X dX0_misfit_97 (tgt := 110) (by decide) (by omega) (by omega) (fun h25 => ?_) (fun h25 => ?_) | refine r_icmp_le X dX0_misfit_97 (tgt := 110) (by decide) (fun h25 => ?_) (fun h25 => ?_)
                · refine r_bipush X dX0_misfit_110 (v := nI 45) (by decide) ?_
                  refine r_cret X dX0_misfit_112 (by first | rfl | assumption) (by first | decide | (simp only [rmv]; omega)) (by first | decide | (simp only [rmv]; omega)) ?_
                  first | with_reducible rfl | contradiction | (simp [mis, h1, h2, h18, h19, h20, h21, h24, h25])
                · refine r_aload_n X dX0_misfit_100 rfl rfl ?_
                  refine r_get X kc0 (j := 9) (hw.2 _ _ (by first | decide | (simp [cnt] <;> omega))) ev0 (by decide) rfl fl_X0_45 dX0_misfit_101 ?_
                  first | with_reducible refine r_ifb_ne X dX0_misfit_104 (tgt := 110) (by decide) (fun h26 => ?_) (fun h26 => ?_) | refine r_if_ne X dX0_misfit_104 (tgt := 110) (by decide) (fun h26 => ?_) (fun h26 => ?_)
                  · refine r_bipush X dX0_misfit_110 (v := nI 45) (by decide) ?_
                    refine r_cret X dX0_misfit_112 (by first | rfl | assumption) (by first | decide | (simp only [rmv]; omega)) (by first | decide | (simp only [rmv]; omega)) ?_
                    first | with_reducible rfl | contradiction | (simp [mis, h1, h2, h18, h19, h20, h21, h24, h25, h26])
                  · refine r_bipush X dX0_misfit_107 (v := nI 118) (by decide) ?_
                    refine r_cret X dX0_misfit_109 (by first | rfl | assumption) (by first | decide | (simp only [rmv]; omega)) (by first | decide | (simp only [rmv]; omega)) ?_
                    first | with_reducible rfl | contradiction | (simp [mis, h1, h2, h18, h19, h20, h21, h24, h25, h26])
          · refine r_aload_n X dX0_misfit_61 rfl rfl ?_
            refine r_get X kc0 (j := 8) (hw.2 _ _ (by first | decide | (simp [cnt] <;> omega))) ev0 (by decide) rfl fl_X0_41 dX0_misfit_62 ?_
            first | with_reducible refine r_ifb_ne X dX0_misfit_65 (tgt := 71) (by decide) (fun h27 => ?_) (fun h27 => ?_) | refine r_if_ne X dX0_misfit_65 (tgt := 71) (by decide) (fun h27 => ?_) (fun h27 => ?_)
            · refine r_aload_n X dX0_misfit_71 rfl rfl ?_
              refine r_getN X kc1 (j := 2) (hw.2 _ _ (by first | decide | (simp [cnt] <;> omega))) ev1 (by decide) rfl fl_X0_65 dX0_misfit_72 ?_
              refine r_aload_n X dX0_misfit_75 rfl rfl ?_
              refine r_get X kc0 (j := 1) (hw.2 _ _ (by first | decide | (simp [cnt] <;> omega))) ev0 (by decide) rfl fl_X0_19 dX0_misfit_76 ?_
              first | with_reducible refine r_icmpn_ge X dX0_misfit_79 (tgt := 89) (by decide) (by omega) (by omega) (fun h28 => ?_) (fun h28 => ?_) | refine r_icmp_ge X dX0_misfit_79 (tgt := 89) (by decide) (fun h28 => ?_) (fun h28 => ?_)
              · refine r_aload_n X dX0_misfit_89 rfl rfl ?_
                refine r_getN X kc1 (j := 2) (hw.2 _ _ (by first | decide | (simp [cnt] <;> omega))) ev1 (by decide) rfl fl_X0_65 dX0_misfit_90 ?_
                refine r_aload_n X dX0_misfit_93 rfl rfl ?_
                refine r_get X kc0 (j := 1) (hw.2 _ _ (by first | decide | (simp [cnt] <;> omega))) ev0 (by decide) rfl fl_X0_19 dX0_misfit_94 ?_
                first | with_reducible refine r_icmpn_le X dX0_misfit_97 (tgt := 110) (by decide) (by omega) (by omega) (fun h29 => ?_) (fun h29 => ?_) | refine r_icmp_le X dX0_misfit_97 (tgt := 110) (by decide) (fun h29 => ?_) (fun h29 => ?_)
                · refine r_bipush X dX0_misfit_110 (v := nI 45) (by decide) ?_
                  refine r_cret X dX0_misfit_112 (by first | rfl | assumption) (by first | decide | (simp only [rmv]; omega)) (by first | decide | (simp only [rmv]; omega)) ?_
                  first | with_reducible rfl | contradiction | (simp [mis, h1, h2, h18, h19, h20, h27, h28, h29])
                · refine r_aload_n X dX0_misfit_100 rfl rfl ?_
                  refine r_get X kc0 (j := 9) (hw.2 _ _ (by first | decide | (simp [cnt] <;> omega))) ev0 (by decide) rfl fl_X0_45 dX0_misfit_101 ?_
                  first | with_reducible refine r_ifb_ne X dX0_misfit_104 (tgt := 110) (by decide) (fun h30 => ?_) (fun h30 => ?_) | refine r_if_ne X dX0_misfit_104 (tgt := 110) (by decide) (fun h30 => ?_) (fun h30 => ?_)
                  · refine r_bipush X dX0_misfit_110 (v := nI 45) (by decide) ?_
                    refine r_cret X dX0_misfit_112 (by first | rfl | assumption) (by first | decide | (simp only [rmv]; omega)) (by first | decide | (simp only [rmv]; omega)) ?_
                    first | with_reducible rfl | contradiction | (simp [mis, h1, h2, h18, h19, h20, h27, h28, h29, h30])
                  · refine r_bipush X dX0_misfit_107 (v := nI 118) (by decide) ?_
                    refine r_cret X dX0_misfit_109 (by first | rfl | assumption) (by first | decide | (simp only [rmv]; omega)) (by first | decide | (simp only [rmv]; omega)) ?_
                    first | with_reducible rfl | contradiction | (simp [mis, h1, h2, h18, h19, h20, h27, h28, h29, h30])
              · refine r_aload_n X dX0_misfit_82 rfl rfl ?_
                refine r_get X kc0 (j := 8) (hw.2 _ _ (by first | decide | (simp [cnt] <;> omega))) ev0 (by decide) rfl fl_X0_41 dX0_misfit_83 ?_
                first | with_reducible refine r_ifb_eq X dX0_misfit_86 (tgt := 107) (by decide) (fun h31 => ?_) (fun h31 => ?_) | refine r_if_eq X dX0_misfit_86 (tgt := 107) (by decide) (fun h31 => ?_) (fun h31 => ?_)
                · refine r_bipush X dX0_misfit_107 (v := nI 118) (by decide) ?_
                  refine r_cret X dX0_misfit_109 (by first | rfl | assumption) (by first | decide | (simp only [rmv]; omega)) (by first | decide | (simp only [rmv]; omega)) ?_
                  first | with_reducible rfl | contradiction | (simp [mis, h1, h2, h18, h19, h20, h27, h28, h31])
                · refine r_aload_n X dX0_misfit_89 rfl rfl ?_
                  refine r_getN X kc1 (j := 2) (hw.2 _ _ (by first | decide | (simp [cnt] <;> omega))) ev1 (by decide) rfl fl_X0_65 dX0_misfit_90 ?_
                  refine r_aload_n X dX0_misfit_93 rfl rfl ?_
                  refine r_get X kc0 (j := 1) (hw.2 _ _ (by first | decide | (simp [cnt] <;> omega))) ev0 (by decide) rfl fl_X0_19 dX0_misfit_94 ?_
                  first | with_reducible refine r_icmpn_le X dX0_misfit_97 (tgt := 110) (by decide) (by omega) (by omega) (fun h32 => ?_) (fun h32 => ?_) | refine r_icmp_le X dX0_misfit_97 (tgt := 110) (by decide) (fun h32 => ?_) (fun h32 => ?_)
                  · refine r_bipush X dX0_misfit_110 (v := nI 45) (by decide) ?_
                    refine r_cret X dX0_misfit_112 (by first | rfl | assumption) (by first | decide | (simp only [rmv]; omega)) (by first | decide | (simp only [rmv]; omega)) ?_
                    first | with_reducible rfl | contradiction | (simp [mis, h1, h2, h18, h19, h20, h27, h28, h31, h32])
                  · refine r_aload_n X dX0_misfit_100 rfl rfl ?_
                    refine r_get X kc0 (j := 9) (hw.2 _ _ (by first | decide | (simp [cnt] <;> omega))) ev0 (by decide) rfl fl_X0_45 dX0_misfit_101 ?_
                    first | with_reducible refine r_ifb_ne X dX0_misfit_104 (tgt := 110) (by decide) (fun h33 => ?_) (fun h33 => ?_) | refine r_if_ne X dX0_misfit_104 (tgt := 110) (by decide) (fun h33 => ?_) (fun h33 => ?_)
                    · refine r_bipush X dX0_misfit_110 (v := nI 45) (by decide) ?_
                      refine r_cret X dX0_misfit_112 (by first | rfl | assumption) (by first | decide | (simp only [rmv]; omega)) (by first | decide | (simp only [rmv]; omega)) ?_
                      first | with_reducible rfl | contradiction | (simp [mis, h1, h2, h18, h19, h20, h27, h28, h31, h32, h33])
                    · refine r_bipush X dX0_misfit_107 (v := nI 118) (by decide) ?_
                      refine r_cret X dX0_misfit_109 (by first | rfl | assumption) (by first | decide | (simp only [rmv]; omega)) (by first | decide | (simp only [rmv]; omega)) ?_
                      first | with_reducible rfl | contradiction | (simp [mis, h1, h2, h18, h19, h20, h27, h28, h31, h32, h33])
            · refine r_bipush X dX0_misfit_68 (v := nI 101) (by decide) ?_
              refine r_cret X dX0_misfit_70 (by first | rfl | assumption) (by first | decide | (simp only [rmv]; omega)) (by first | decide | (simp only [rmv]; omega)) ?_
              first | with_reducible rfl | contradiction | (simp [mis, h1, h2, h18, h19, h20, h27])
      · refine r_bipush X dX0_misfit_36 (v := nI 111) (by decide) ?_
        refine r_cret X dX0_misfit_38 (by first | rfl | assumption) (by first | decide | (simp only [rmv]; omega)) (by first | decide | (simp only [rmv]; omega)) ?_
        first | with_reducible rfl | contradiction | (simp [mis, h1, h2, h18])
  · refine r_bipush X dX0_misfit_14 (v := nI 112) (by decide) ?_
    refine r_cret X dX0_misfit_16 (by first | rfl | assumption) (by first | decide | (simp only [rmv]; omega)) (by first | decide | (simp only [rmv]; omega)) ?_
    first | with_reducible rfl | contradiction | (simp [mis, h1])

set_option maxHeartbeats 4000000 in
set_option maxRecDepth 100000 in
theorem c_X0_fits {l : Launch} {w : Wo} {M : Mem} {G : Lng} {e9 i : Nat} (hnt : l.stackTraces = false) (hw : WK w) (he : e9 < 5) (hi : i < 12) : CT l yX0_fits [Cond.code yX0_fits cX0_fits 2 (some .boolean)] 2 0 0 w [.ref (w.1 (0, e9)), .ref (w.1 (1, i))] M G (okO (some (.int (bi (fit M e9 i)))) M G) := by
  refine CT_of hnt hw.1 mw_X0_fits (by simp [Value.category]) (Nat.le_of_ble_eq_true rfl) (fun p e s m args below meth c X => ?_)
  refine r_aload_n X dX0_fits_0 rfl rfl ?_
  refine r_getN X kc1 (j := 0) (hw.2 _ _ (by first | decide | (simp [cnt] <;> omega))) ev1 (by decide) rfl fl_X0_51 dX0_fits_1 ?_
  first | with_reducible refine r_ifb_eq X dX0_fits_4 (tgt := 21) (by decide) (fun h1 => ?_) (fun h1 => ?_) | refine r_if_eq X dX0_fits_4 (tgt := 21) (by decide) (fun h1 => ?_) (fun h1 => ?_)
  · refine r_iconst X dX0_fits_21 (v := nI 0) (by decide) ?_
    refine r_zret X dX0_fits_22 (by first | decide | (simp only [rmv]; omega)) (by first | decide | (simp only [rmv]; omega)) (by with_reducible rfl) ?_
    first | with_reducible rfl | contradiction | (simp [fit, bi_f, bi_t, h1])
  · refine r_aload_n X dX0_fits_7 rfl rfl ?_
    refine r_aload_n X dX0_fits_8 rfl rfl ?_
    refine r_callV X (c_X0_misfit hnt hw (by first | assumption | omega) (by first | assumption | omega)) mw_X0_misfit kc0 mi_X0_misfit (hw.2 _ _ (by first | decide | (simp [cnt] <;> omega))) ev0 ml_X0_56 rfl rfl (Nat.le_of_ble_eq_true rfl) (by first | decide | (simp only [rmv]; omega)) (by first | decide | (simp only [rmv]; omega)) (by first | decide | (simp only [rmv]; omega)) (by first | decide | (simp only [rmv]; omega)) dX0_fits_9 (ko1 ?_)
    refine r_bipush X dX0_fits_12 (v := nI 45) (by decide) ?_
    first | with_reducible refine r_icmpn_ne X dX0_fits_14 (tgt := 21) (by decide) (by omega) (by omega) (fun h2 => ?_) (fun h2 => ?_) | refine r_icmp_ne X dX0_fits_14 (tgt := 21) (by decide) (fun h2 => ?_) (fun h2 => ?_)
    · refine r_iconst X dX0_fits_21 (v := nI 0) (by decide) ?_
      refine r_zret X dX0_fits_22 (by first | decide | (simp only [rmv]; omega)) (by first | decide | (simp only [rmv]; omega)) (by with_reducible rfl) ?_
      first | with_reducible rfl | contradiction | (simp [fit, bi_f, bi_t, h1, h2])
    · refine r_iconst X dX0_fits_17 (v := nI 1) (by decide) ?_
      refine r_goto X dX0_fits_18 (tgt := 22) (by decide) ?_
      refine r_zret X dX0_fits_22 (by first | decide | (simp only [rmv]; omega)) (by first | decide | (simp only [rmv]; omega)) (by with_reducible rfl) ?_
      first | with_reducible rfl | contradiction | (simp [fit, bi_f, bi_t, h1, h2])

end M1
end
section
/-! METHODS OF AN ENTITLEMENT AND AN INSTALL -/
section M2
def ix (x : Int32) : Nat := x.toNatClampNeg
theorem ixn {n : Nat} (h : n < 2 ^ 31) : ix (nI n) = n := nI_clamp h
/-- x is a number below n -/
def Rg (x : Int32) (n : Nat) : Prop := x = nI (ix x) ∧ ix x < n
theorem Rg.of {n m : Nat} (h : n < m) (hm : m ≤ 2 ^ 31) : Rg (nI n) m := by
  have : ix (nI n) = n := ixn (by omega)
  exact ⟨by rw [this], by rw [this]; exact h⟩
theorem btw_in {a n : Nat} (h : a ≤ n) (hn : n < 2 ^ 31) : btw (nI a) (nI 0) (nI n) = true := by
  have h1 : ¬ nI a < nI 0 := nI_nlt (Nat.zero_le a) (by omega)
  have h2 : ¬ nI n < nI a := nI_nlt h (by omega)
  simp [btw, h1, h2]
theorem btw_Rg {x : Int32} {n : Nat} (h : btw x (nI 0) (nI n) = true) (hn : n < 2 ^ 31 - 1) : Rg x (n + 1) := by
  simp only [btw, Bool.and_eq_true, Bool.not_eq_true', decide_eq_false_iff_not] at h
  obtain ⟨j, hj, rfl⟩ := nI_of (x := x) h.1
  refine Rg.of ?_ (by omega)
  have := h.2
  rw [nI_ltI (by omega) hj] at this
  omega
theorem Rg.btw {x : Int32} {n : Nat} (h : Rg x (n + 1)) (hn : n < 2 ^ 31) : btw x (nI 0) (nI n) = true := by
  rw [h.1]
  exact btw_in (by have := h.2; omega) hn
/-- clearNeed, after k places -/
def zf (M : Mem) (e k : Nat) : Mem := fun c i k' => if c = 9 ∧ i = e ∧ k' < k then nI 0 else M c i k'
theorem zf0 (M : Mem) (e : Nat) : zf M e 0 = M := by funext c i k; simp [zf]
theorem zfS (M : Mem) (e k : Nat) : ms (zf M e k) 9 e k (nI 0) = zf M e (k + 1) := by
  funext c i k'
  simp only [ms, zf]
  by_cases h : c = 9 ∧ i = e
  · obtain ⟨rfl, rfl⟩ := h
    by_cases h1 : k' = k
    · subst h1; simp
    · by_cases h2 : k' < k
      · simp [h1, h2, show k' < k + 1 by omega]
      · simp [h1, h2, show ¬ k' < k + 1 by omega]
  · have h1 : ¬ (c = 9 ∧ i = e ∧ k' = k) := fun z => h ⟨z.1, z.2.1⟩
    have h2 : ¬ (c = 9 ∧ i = e ∧ k' < k) := fun z => h ⟨z.1, z.2.1⟩
    have h3 : ¬ (c = 9 ∧ i = e ∧ k' < k + 1) := fun z => h ⟨z.1, z.2.1⟩
    rw [if_neg h1, if_neg h2, if_neg h3]
def clr (M : Mem) (e : Nat) : Mem := ms (zf M e 40) 0 e 12 (nI 0)
/-- the greatest of the first p rows of a holder -/
def mx (M : Mem) (e h : Nat) : Nat → Int32
  | 0 => nI 0
  | p + 1 => if mx M e h p < M 9 e (h * 4 + p) then M 9 e (h * 4 + p) else mx M e h p
def uoh (M : Mem) (e h : Nat) : Int32 := if M 0 e 3 = nI 117 ∧ ¬ M 0 e 10 = 0 then (mx M e h 4 + nI 1) / nI 2 else mx M e h 4
def chg (M : Mem) (e i : Nat) (b : Int32) : Mem :=
  if M 0 e 3 = nI 99 then ms M 0 e 12 (M 0 e 12 + b * (if M 1 i 6 < M 0 e 6 then M 0 e 6 else M 1 i 6))
  else if M 0 e 3 = nI 100 then
    ms (ms M 9 e (ix (M 1 i 4) * 4 + ix (M 1 i 1)) (M 9 e (ix (M 1 i 4) * 4 + ix (M 1 i 1)) + b)) 0 e 12 (M 0 e 12 + (uoh (ms M 9 e (ix (M 1 i 4) * 4 + ix (M 1 i 1)) (M 9 e (ix (M 1 i 4) * 4 + ix (M 1 i 1)) + b)) e (ix (M 1 i 4)) - uoh M e (ix (M 1 i 4))))
  else
    ms (ms M 9 e (ix (M 1 i 5) * 4 + ix (M 1 i 1)) (M 9 e (ix (M 1 i 5) * 4 + ix (M 1 i 1)) + b)) 0 e 12 (M 0 e 12 + (uoh (ms M 9 e (ix (M 1 i 5) * 4 + ix (M 1 i 1)) (M 9 e (ix (M 1 i 5) * 4 + ix (M 1 i 1)) + b)) e (ix (M 1 i 5)) - uoh M e (ix (M 1 i 5))))
def mss (M : Mem) (e : Nat) : Int32 := if nI 0 < M 0 e 12 - M 0 e 4 then M 0 e 12 - M 0 e 4 else nI 0
theorem ms_o {M : Mem} {c0 i0 j : Nat} {x : Int32} {c n k : Nat} (h : ¬ (c = c0 ∧ n = i0 ∧ k = j)) : ms M c0 i0 j x c n k = M c n k := by rw [ms, if_neg h]
theorem ms_s {M : Mem} {c0 i0 j : Nat} {x : Int32} : ms M c0 i0 j x c0 i0 j = x := by simp [ms]
set_option maxHeartbeats 4000000 in
set_option maxRecDepth 100000 in
theorem c_X0_countRights {l : Launch} {w : Wo} {M : Mem} {G : Lng} {e9 : Nat} (hnt : l.stackTraces = false) (hw : WK w) (he : e9 < 5) : CT l yX0_countRights [Cond.code yX0_countRights cX0_countRights 1 (some .int)] 1 0 0 w [.ref (w.1 (0, e9))] M G (okO (some (.int ((if M 0 e9 8 = 0 then nI 0 else nI 1) + (if M 0 e9 9 = 0 then nI 0 else nI 1) + (if M 0 e9 10 = 0 then nI 0 else nI 1)))) (M) G) := by
  refine CT_of hnt hw.1 mw_X0_countRights (by simp [Value.category]) (Nat.le_of_ble_eq_true rfl) (fun p e s m args below meth c X => ?_)
  refine r_aload_n X dX0_countRights_0 rfl rfl ?_
  refine r_get X kc0 (j := 8) (hw.2 _ _ (by first | decide | (simp [cnt] <;> omega))) ev0 (by decide) rfl fl_X0_41 dX0_countRights_1 ?_
  first | with_reducible refine r_ifb_eq X dX0_countRights_4 (tgt := 11) (by decide) (fun h1 => ?_) (fun h1 => ?_) | refine r_if_eq X dX0_countRights_4 (tgt := 11) (by decide) (fun h1 => ?_) (fun h1 => ?_)
  · refine r_iconst X dX0_countRights_11 (v := nI 0) (by decide) ?_
    refine r_aload_n X dX0_countRights_12 rfl rfl ?_
    refine r_get X kc0 (j := 9) (hw.2 _ _ (by first | decide | (simp [cnt] <;> omega))) ev0 (by decide) rfl fl_X0_45 dX0_countRights_13 ?_
    first | with_reducible refine r_ifb_eq X dX0_countRights_16 (tgt := 23) (by decide) (fun h2 => ?_) (fun h2 => ?_) | refine r_if_eq X dX0_countRights_16 (tgt := 23) (by decide) (fun h2 => ?_) (fun h2 => ?_)
    · refine r_iconst X dX0_countRights_23 (v := nI 0) (by decide) ?_
      refine r_iadd X dX0_countRights_24 ?_
      refine r_aload_n X dX0_countRights_25 rfl rfl ?_
      refine r_get X kc0 (j := 10) (hw.2 _ _ (by first | decide | (simp [cnt] <;> omega))) ev0 (by decide) rfl fl_X0_48 dX0_countRights_26 ?_
      first | with_reducible refine r_ifb_eq X dX0_countRights_29 (tgt := 36) (by decide) (fun h3 => ?_) (fun h3 => ?_) | refine r_if_eq X dX0_countRights_29 (tgt := 36) (by decide) (fun h3 => ?_) (fun h3 => ?_)
      · refine r_iconst X dX0_countRights_36 (v := nI 0) (by decide) ?_
        refine r_iadd X dX0_countRights_37 ?_
        refine r_iret X dX0_countRights_38 (by first | decide | (simp only [rmv]; omega)) (by first | decide | (simp only [rmv]; omega)) ?_
        first | with_reducible rfl | contradiction | assumption | (simp [h1, h2, h3])
      · refine r_iconst X dX0_countRights_32 (v := nI 1) (by decide) ?_
        refine r_goto X dX0_countRights_33 (tgt := 37) (by decide) ?_
        refine r_iadd X dX0_countRights_37 ?_
        refine r_iret X dX0_countRights_38 (by first | decide | (simp only [rmv]; omega)) (by first | decide | (simp only [rmv]; omega)) ?_
        first | with_reducible rfl | contradiction | assumption | (simp [h1, h2, h3])
    · refine r_iconst X dX0_countRights_19 (v := nI 1) (by decide) ?_
      refine r_goto X dX0_countRights_20 (tgt := 24) (by decide) ?_
      refine r_iadd X dX0_countRights_24 ?_
      refine r_aload_n X dX0_countRights_25 rfl rfl ?_
      refine r_get X kc0 (j := 10) (hw.2 _ _ (by first | decide | (simp [cnt] <;> omega))) ev0 (by decide) rfl fl_X0_48 dX0_countRights_26 ?_
      first | with_reducible refine r_ifb_eq X dX0_countRights_29 (tgt := 36) (by decide) (fun h4 => ?_) (fun h4 => ?_) | refine r_if_eq X dX0_countRights_29 (tgt := 36) (by decide) (fun h4 => ?_) (fun h4 => ?_)
      · refine r_iconst X dX0_countRights_36 (v := nI 0) (by decide) ?_
        refine r_iadd X dX0_countRights_37 ?_
        refine r_iret X dX0_countRights_38 (by first | decide | (simp only [rmv]; omega)) (by first | decide | (simp only [rmv]; omega)) ?_
        first | with_reducible rfl | contradiction | assumption | (simp [h1, h2, h4])
      · refine r_iconst X dX0_countRights_32 (v := nI 1) (by decide) ?_
        refine r_goto X dX0_countRights_33 (tgt := 37) (by decide) ?_
        refine r_iadd X dX0_countRights_37 ?_
        refine r_iret X dX0_countRights_38 (by first | decide | (simp only [rmv]; omega)) (by first | decide | (simp only [rmv]; omega)) ?_
        first | with_reducible rfl | contradiction | assumption | (simp [h1, h2, h4])
  · refine r_iconst X dX0_countRights_7 (v := nI 1) (by decide) ?_
    refine r_goto X dX0_countRights_8 (tgt := 12) (by decide) ?_
    refine r_aload_n X dX0_countRights_12 rfl rfl ?_
    refine r_get X kc0 (j := 9) (hw.2 _ _ (by first | decide | (simp [cnt] <;> omega))) ev0 (by decide) rfl fl_X0_45 dX0_countRights_13 ?_
    first | with_reducible refine r_ifb_eq X dX0_countRights_16 (tgt := 23) (by decide) (fun h5 => ?_) (fun h5 => ?_) | refine r_if_eq X dX0_countRights_16 (tgt := 23) (by decide) (fun h5 => ?_) (fun h5 => ?_)
    · refine r_iconst X dX0_countRights_23 (v := nI 0) (by decide) ?_
      refine r_iadd X dX0_countRights_24 ?_
      refine r_aload_n X dX0_countRights_25 rfl rfl ?_
      refine r_get X kc0 (j := 10) (hw.2 _ _ (by first | decide | (simp [cnt] <;> omega))) ev0 (by decide) rfl fl_X0_48 dX0_countRights_26 ?_
      first | with_reducible refine r_ifb_eq X dX0_countRights_29 (tgt := 36) (by decide) (fun h6 => ?_) (fun h6 => ?_) | refine r_if_eq X dX0_countRights_29 (tgt := 36) (by decide) (fun h6 => ?_) (fun h6 => ?_)
      · refine r_iconst X dX0_countRights_36 (v := nI 0) (by decide) ?_
        refine r_iadd X dX0_countRights_37 ?_
        refine r_iret X dX0_countRights_38 (by first | decide | (simp only [rmv]; omega)) (by first | decide | (simp only [rmv]; omega)) ?_
        first | with_reducible rfl | contradiction | assumption | (simp [h1, h5, h6])
      · refine r_iconst X dX0_countRights_32 (v := nI 1) (by decide) ?_
        refine r_goto X dX0_countRights_33 (tgt := 37) (by decide) ?_
        refine r_iadd X dX0_countRights_37 ?_
        refine r_iret X dX0_countRights_38 (by first | decide | (simp only [rmv]; omega)) (by first | decide | (simp only [rmv]; omega)) ?_
        first | with_reducible rfl | contradiction | assumption | (simp [h1, h5, h6])
    · refine r_iconst X dX0_countRights_19 (v := nI 1) (by decide) ?_
      refine r_goto X dX0_countRights_20 (tgt := 24) (by decide) ?_
      refine r_iadd X dX0_countRights_24 ?_
      refine r_aload_n X dX0_countRights_25 rfl rfl ?_
      refine r_get X kc0 (j := 10) (hw.2 _ _ (by first | decide | (simp [cnt] <;> omega))) ev0 (by decide) rfl fl_X0_48 dX0_countRights_26 ?_
      first | with_reducible refine r_ifb_eq X dX0_countRights_29 (tgt := 36) (by decide) (fun h7 => ?_) (fun h7 => ?_) | refine r_if_eq X dX0_countRights_29 (tgt := 36) (by decide) (fun h7 => ?_) (fun h7 => ?_)
      · refine r_iconst X dX0_countRights_36 (v := nI 0) (by decide) ?_
        refine r_iadd X dX0_countRights_37 ?_
        refine r_iret X dX0_countRights_38 (by first | decide | (simp only [rmv]; omega)) (by first | decide | (simp only [rmv]; omega)) ?_
        first | with_reducible rfl | contradiction | assumption | (simp [h1, h5, h7])
      · refine r_iconst X dX0_countRights_32 (v := nI 1) (by decide) ?_
        refine r_goto X dX0_countRights_33 (tgt := 37) (by decide) ?_
        refine r_iadd X dX0_countRights_37 ?_
        refine r_iret X dX0_countRights_38 (by first | decide | (simp only [rmv]; omega)) (by first | decide | (simp only [rmv]; omega)) ?_
        first | with_reducible rfl | contradiction | assumption | (simp [h1, h5, h7])

set_option maxHeartbeats 4000000 in
set_option maxRecDepth 100000 in
theorem c_X0_missing {l : Launch} {w : Wo} {M : Mem} {G : Lng} {e9 : Nat} (hnt : l.stackTraces = false) (hw : WK w) (he : e9 < 5) : CT l yX0_missing [Cond.code yX0_missing cX0_missing 1 (some .int)] 1 0 0 w [.ref (w.1 (0, e9))] M G (okO (some (.int (mss M e9))) (M) G) := by
  refine CT_of hnt hw.1 mw_X0_missing (by simp [Value.category]) (Nat.le_of_ble_eq_true rfl) (fun p e s m args below meth c X => ?_)
  refine r_iconst X dX0_missing_0 (v := nI 0) (by decide) ?_
  refine r_aload_n X dX0_missing_1 rfl rfl ?_
  refine r_get X kc0 (j := 12) (hw.2 _ _ (by first | decide | (simp [cnt] <;> omega))) ev0 (by decide) rfl fl_X0_66 dX0_missing_2 ?_
  refine r_aload_n X dX0_missing_5 rfl rfl ?_
  refine r_get X kc0 (j := 4) (hw.2 _ _ (by first | decide | (simp [cnt] <;> omega))) ev0 (by decide) rfl fl_X0_29 dX0_missing_6 ?_
  refine r_isub X dX0_missing_9 ?_
  refine r_max X mx_X0_76 (by first | decide | (simp [Value.category, rmv] <;> omega)) (by first | decide | (simp only [rmv]; omega)) (by first | decide | (simp only [rmv]; omega)) (by first | decide | (simp only [rmv]; omega)) dX0_missing_10 ?_
  refine r_iret X dX0_missing_13 (by first | decide | (simp only [rmv]; omega)) (by first | decide | (simp only [rmv]; omega)) ?_
  first | with_reducible rfl | contradiction | assumption | (simp [mss])

set_option maxHeartbeats 4000000 in
set_option maxRecDepth 100000 in
theorem c_X0_missingPrice {l : Launch} {w : Wo} {M : Mem} {G : Lng} {e9 : Nat} (hnt : l.stackTraces = false) (hw : WK w) (he : e9 < 5) : CT l yX0_missingPrice [Cond.code yX0_missingPrice cX0_missingPrice 1 (some .int)] 2 0 0 w [.ref (w.1 (0, e9))] M G (okO (some (.int (M 0 e9 7 * mss M e9))) (M) G) := by
  refine CT_of hnt hw.1 mw_X0_missingPrice (by simp [Value.category]) (Nat.le_of_ble_eq_true rfl) (fun p e s m args below meth c X => ?_)
  refine r_aload_n X dX0_missingPrice_0 rfl rfl ?_
  refine r_get X kc0 (j := 7) (hw.2 _ _ (by first | decide | (simp [cnt] <;> omega))) ev0 (by decide) rfl fl_X0_38 dX0_missingPrice_1 ?_
  refine r_aload_n X dX0_missingPrice_4 rfl rfl ?_
  refine r_callV X (c_X0_missing hnt hw (by first | assumption | omega | (repeat (first | assumption | refine DI_chg ?_ | refine DI_clr ?_ | refine DI_scr rfl ?_)))) mw_X0_missing kc0 mi_X0_missing (hw.2 _ _ (by first | decide | (simp [cnt] <;> omega))) ev0 ml_X0_96 rfl rfl (Nat.le_of_ble_eq_true rfl) (by first | decide | (simp only [rmv]; omega)) (by first | decide | (simp only [rmv]; omega)) (by first | decide | (simp only [rmv]; omega)) (by first | decide | (simp only [rmv]; omega)) dX0_missingPrice_5 (ko1 ?_)
  refine r_imul X dX0_missingPrice_8 ?_
  refine r_iret X dX0_missingPrice_9 (by first | decide | (simp only [rmv]; omega)) (by first | decide | (simp only [rmv]; omega)) ?_
  first | with_reducible rfl | contradiction | assumption | (simp [])

set_option maxHeartbeats 4000000 in
set_option maxRecDepth 100000 in
theorem lp_clearNeed {p : Program} {l : Launch} {e : Env} {s : State} {m : MethodId} {args : Array Value} {below : List Frame} {meth : Method} {c : Code} {w : Wo} {M : Mem} {G : Lng} {e9 : Nat} (hnt : l.stackTraces = false) (hw : WK w) (X : Cx p l (rmv 1 0 0) s m args meth c cX0_clearNeed 2 yX0_clearNeed.cls none [] w) (he : e9 < 5) : ∀ (n k : Nat) (M1 : Mem), k + n = 40 → M1 = zf M e9 k → VE p l e (rmv 1 0 0) s m args below meth c (0) (0) (QV w (okO none (clr M e9) G) below args s 0 0) 2 w 2 [some (.ref (w.1 (0, e9))), some (.int (nI k))] [] (ev w (M1) (G)) := by
  intro n
  induction n with
  | zero =>
    intro k M1 hk hM
    refine r_iload_n X dX0_clearNeed_2 rfl rfl ?_
    refine r_aload_n X dX0_clearNeed_3 rfl rfl ?_
    refine r_get X kc0 (j := 11) (hw.2 _ _ (by first | decide | (simp [cnt] <;> omega))) ev0 (by decide) rfl fl_X0_9 dX0_clearNeed_4 ?_
    refine r_alen X (t0 := 0) (hw.2 _ _ (by first | decide | (simp [cnt] <;> omega))) rfl (evA (by decide) (by decide)) (v := nI 40) rfl dX0_clearNeed_7 ?_
    first | with_reducible refine r_icmpn_ge X dX0_clearNeed_8 (tgt := 24) (by decide) (by omega) (by omega) (fun h1 => ?_) (fun h1 => ?_) | refine r_icmp_ge X dX0_clearNeed_8 (tgt := 24) (by decide) (fun h1 => ?_) (fun h1 => ?_)
    · refine r_aload_n X dX0_clearNeed_24 rfl rfl ?_
      refine r_iconst X dX0_clearNeed_25 (v := nI 0) (by decide) ?_
      refine r_put X kc0 (j := 12) (hw.2 _ _ (by first | decide | (simp [cnt] <;> omega))) ev0 (by decide) (Nat.le_of_ble_eq_true rfl) fl_X0_66 rfl rfl rfl dX0_clearNeed_26 es_0_12 ?_
      refine r_vret X dX0_clearNeed_29 (by first | decide | (simp only [rmv]; omega)) (by first | decide | (simp only [rmv]; omega)) ?_
      first | with_reducible rfl | contradiction | assumption | (rw [hM, show k = 40 by omega]; rfl)
    · exact absurd h1 (by omega)
  | succ n ih =>
    intro k M1 hk hM
    refine r_iload_n X dX0_clearNeed_2 rfl rfl ?_
    refine r_aload_n X dX0_clearNeed_3 rfl rfl ?_
    refine r_get X kc0 (j := 11) (hw.2 _ _ (by first | decide | (simp [cnt] <;> omega))) ev0 (by decide) rfl fl_X0_9 dX0_clearNeed_4 ?_
    refine r_alen X (t0 := 0) (hw.2 _ _ (by first | decide | (simp [cnt] <;> omega))) rfl (evA (by decide) (by decide)) (v := nI 40) rfl dX0_clearNeed_7 ?_
    first | with_reducible refine r_icmpn_ge X dX0_clearNeed_8 (tgt := 24) (by decide) (by omega) (by omega) (fun h1 => ?_) (fun h1 => ?_) | refine r_icmp_ge X dX0_clearNeed_8 (tgt := 24) (by decide) (fun h1 => ?_) (fun h1 => ?_)
    · exact absurd h1 (by omega)
    · refine r_aload_n X dX0_clearNeed_11 rfl rfl ?_
      refine r_get X kc0 (j := 11) (hw.2 _ _ (by first | decide | (simp [cnt] <;> omega))) ev0 (by decide) rfl fl_X0_9 dX0_clearNeed_12 ?_
      refine r_iload_n X dX0_clearNeed_15 rfl rfl ?_
      refine r_iconst X dX0_clearNeed_16 (v := nI 0) (by decide) ?_
      refine r_iast X (hw.2 _ _ (by first | decide | (simp [cnt] <;> omega))) (evA (by decide) (by decide)) (by first | with_reducible rfl | assumption | (rw [pk_mul, nI_add]) | (rw [hd1, hp1, pk_mul, nI_add]) | (rw [hu1, hp1, pk_mul, nI_add])) (by first | assumption | (simp [alen] <;> omega)) (by decide) rfl dX0_clearNeed_17 (esA (by decide) (by decide)) ?_
      first | with_reducible refine r_iincn X dX0_clearNeed_18 rfl (by decide) rfl ?_ | refine r_iinc1 X dX0_clearNeed_18 rfl (by decide) rfl ?_
      refine r_goto X dX0_clearNeed_21 (tgt := 2) (by decide) ?_
      exact ih (k + 1) _ (by omega) (by rw [hM, zfS])

set_option maxHeartbeats 4000000 in
set_option maxRecDepth 100000 in
theorem c_X0_clearNeed {l : Launch} {w : Wo} {M : Mem} {G : Lng} {e9 : Nat} (hnt : l.stackTraces = false) (hw : WK w) (he : e9 < 5) : CT l yX0_clearNeed [Cond.code yX0_clearNeed cX0_clearNeed 2 none] 1 0 0 w [.ref (w.1 (0, e9))] M G (okO none (clr M e9) G) := by
  refine CT_of hnt hw.1 mw_X0_clearNeed (by simp [Value.category]) (Nat.le_of_ble_eq_true rfl) (fun p e s m args below meth c X => ?_)
  refine r_iconst X dX0_clearNeed_0 (v := nI 0) (by decide) ?_
  refine r_istore_n X dX0_clearNeed_1 rfl (by decide) rfl ?_
  exact lp_clearNeed hnt hw X he 40 0 M rfl (zf0 M e9).symm

set_option maxHeartbeats 4000000 in
set_option maxRecDepth 100000 in
theorem lp_uoh {p : Program} {l : Launch} {e : Env} {s : State} {m : MethodId} {args : Array Value} {below : List Frame} {meth : Method} {c : Code} {w : Wo} {M : Mem} {G : Lng} {e9 h9 : Nat} (hnt : l.stackTraces = false) (hw : WK w) (X : Cx p l (rmv 1 0 0) s m args meth c cX0_unitsOfHolder 4 yX0_unitsOfHolder.cls (some .int) [] w) (he : e9 < 5) (hh9 : h9 < 10) : ∀ (n p9 : Nat), p9 + n = 4 → VE p l e (rmv 1 0 0) s m args below meth c (0) (0) (QV w (okO (some (.int (uoh M e9 h9))) (M) G) below args s 0 0) 4 w 4 [some (.ref (w.1 (0, e9))), some (.int (nI h9)), some (.int (mx M e9 h9 p9)), some (.int (nI p9))] [] (ev w (M) (G)) := by
  intro n
  induction n with
  | zero =>
    intro p9 hk
    refine r_iload_n X dX0_unitsOfHolder_4 rfl rfl ?_
    refine r_iconst X dX0_unitsOfHolder_5 (v := nI 4) (by decide) ?_
    first | with_reducible refine r_icmpn_ge X dX0_unitsOfHolder_6 (tgt := 30) (by decide) (by omega) (by omega) (fun h1 => ?_) (fun h1 => ?_) | refine r_icmp_ge X dX0_unitsOfHolder_6 (tgt := 30) (by decide) (fun h1 => ?_) (fun h1 => ?_)
    · refine r_aload_n X dX0_unitsOfHolder_30 rfl rfl ?_
      refine r_get X kc0 (j := 3) (hw.2 _ _ (by first | decide | (simp [cnt] <;> omega))) ev0 (by decide) rfl fl_X0_25 dX0_unitsOfHolder_31 ?_
      refine r_bipush X dX0_unitsOfHolder_34 (v := nI 117) (by decide) ?_
      first | with_reducible refine r_icmpn_ne X dX0_unitsOfHolder_36 (tgt := 54) (by decide) (by omega) (by omega) (fun h2 => ?_) (fun h2 => ?_) | refine r_icmp_ne X dX0_unitsOfHolder_36 (tgt := 54) (by decide) (fun h2 => ?_) (fun h2 => ?_)
      · refine r_iload_n X dX0_unitsOfHolder_54 rfl rfl ?_
        refine r_iret X dX0_unitsOfHolder_55 (by first | decide | (simp only [rmv]; omega)) (by first | decide | (simp only [rmv]; omega)) ?_
        first | with_reducible rfl | contradiction | assumption | ((have hp4 : p9 = 4 := by omega); subst hp4; simp [uoh, h1, h2])
      · refine r_aload_n X dX0_unitsOfHolder_39 rfl rfl ?_
        refine r_get X kc0 (j := 10) (hw.2 _ _ (by first | decide | (simp [cnt] <;> omega))) ev0 (by decide) rfl fl_X0_48 dX0_unitsOfHolder_40 ?_
        first | with_reducible refine r_ifb_eq X dX0_unitsOfHolder_43 (tgt := 54) (by decide) (fun h3 => ?_) (fun h3 => ?_) | refine r_if_eq X dX0_unitsOfHolder_43 (tgt := 54) (by decide) (fun h3 => ?_) (fun h3 => ?_)
        · refine r_iload_n X dX0_unitsOfHolder_54 rfl rfl ?_
          refine r_iret X dX0_unitsOfHolder_55 (by first | decide | (simp only [rmv]; omega)) (by first | decide | (simp only [rmv]; omega)) ?_
          first | with_reducible rfl | contradiction | assumption | ((have hp4 : p9 = 4 := by omega); subst hp4; simp [uoh, h1, h2, h3])
        · refine r_iload_n X dX0_unitsOfHolder_46 rfl rfl ?_
          refine r_iconst X dX0_unitsOfHolder_47 (v := nI 1) (by decide) ?_
          refine r_iadd X dX0_unitsOfHolder_48 ?_
          refine r_iconst X dX0_unitsOfHolder_49 (v := nI 2) (by decide) ?_
          refine r_idiv X dX0_unitsOfHolder_50 (by decide) ?_
          refine r_goto X dX0_unitsOfHolder_51 (tgt := 55) (by decide) ?_
          refine r_iret X dX0_unitsOfHolder_55 (by first | decide | (simp only [rmv]; omega)) (by first | decide | (simp only [rmv]; omega)) ?_
          first | with_reducible rfl | contradiction | assumption | ((have hp4 : p9 = 4 := by omega); subst hp4; simp [uoh, h1, h2, h3])
    · exact absurd h1 (by omega)
  | succ n ih =>
    intro p9 hk
    refine r_iload_n X dX0_unitsOfHolder_4 rfl rfl ?_
    refine r_iconst X dX0_unitsOfHolder_5 (v := nI 4) (by decide) ?_
    first | with_reducible refine r_icmpn_ge X dX0_unitsOfHolder_6 (tgt := 30) (by decide) (by omega) (by omega) (fun h1 => ?_) (fun h1 => ?_) | refine r_icmp_ge X dX0_unitsOfHolder_6 (tgt := 30) (by decide) (fun h1 => ?_) (fun h1 => ?_)
    · exact absurd h1 (by omega)
    · refine r_iload_n X dX0_unitsOfHolder_9 rfl rfl ?_
      refine r_aload_n X dX0_unitsOfHolder_10 rfl rfl ?_
      refine r_get X kc0 (j := 11) (hw.2 _ _ (by first | decide | (simp [cnt] <;> omega))) ev0 (by decide) rfl fl_X0_9 dX0_unitsOfHolder_11 ?_
      refine r_iload_n X dX0_unitsOfHolder_14 rfl rfl ?_
      refine r_iconst X dX0_unitsOfHolder_15 (v := nI 4) (by decide) ?_
      refine r_imul X dX0_unitsOfHolder_16 ?_
      refine r_iload_n X dX0_unitsOfHolder_17 rfl rfl ?_
      refine r_iadd X dX0_unitsOfHolder_18 ?_
      refine r_iald X (hw.2 _ _ (by first | decide | (simp [cnt] <;> omega))) (evA (by decide) (by decide)) (by first | with_reducible rfl | assumption | (rw [pk_mul, nI_add]) | (rw [hd1, hp1, pk_mul, nI_add]) | (rw [hu1, hp1, pk_mul, nI_add])) (by first | assumption | (simp [alen] <;> omega)) (by decide) dX0_unitsOfHolder_19 ?_
      refine r_max X mx_X0_76 (by first | decide | (simp [Value.category, rmv] <;> omega)) (by first | decide | (simp only [rmv]; omega)) (by first | decide | (simp only [rmv]; omega)) (by first | decide | (simp only [rmv]; omega)) dX0_unitsOfHolder_20 ?_
      refine r_istore_n X dX0_unitsOfHolder_23 rfl (by decide) rfl ?_
      first | with_reducible refine r_iincn X dX0_unitsOfHolder_24 rfl (by decide) rfl ?_ | refine r_iinc1 X dX0_unitsOfHolder_24 rfl (by decide) rfl ?_
      refine r_goto X dX0_unitsOfHolder_27 (tgt := 4) (by decide) ?_
      exact ih (p9 + 1) (by omega)

set_option maxHeartbeats 4000000 in
set_option maxRecDepth 100000 in
theorem c_X0_unitsOfHolder {l : Launch} {w : Wo} {M : Mem} {G : Lng} {e9 h9 : Nat} {x : Int32} (hnt : l.stackTraces = false) (hw : WK w) (he : e9 < 5) (hx : x = nI h9) (hh9 : h9 < 10) : CT l yX0_unitsOfHolder [Cond.code yX0_unitsOfHolder cX0_unitsOfHolder 4 (some .int)] 1 0 0 w [.ref (w.1 (0, e9)), .int x] M G (okO (some (.int (uoh M e9 h9))) (M) G) := by
  refine CT_of hnt hw.1 mw_X0_unitsOfHolder (by simp [Value.category]) (Nat.le_of_ble_eq_true rfl) (fun p e s m args below meth c X => ?_)
  subst hx
  refine r_iconst X dX0_unitsOfHolder_0 (v := nI 0) (by decide) ?_
  refine r_istore_n X dX0_unitsOfHolder_1 rfl (by decide) rfl ?_
  refine r_iconst X dX0_unitsOfHolder_2 (v := nI 0) (by decide) ?_
  refine r_istore_n X dX0_unitsOfHolder_3 rfl (by decide) rfl ?_
  exact lp_uoh hnt hw X he hh9 4 0 rfl

/-- scratch: what a search writes -/
def scr (c k : Nat) : Bool := (decide (c = 0) && decide (k = 12)) || (decide (c = 2) && decide (k = 9)) || decide (c = 6) || decide (c = 7) || decide (c = 8) || decide (c = 9)
/-- the same data -/
def Sm (M M1 : Mem) : Prop := ∀ c i k, scr c k = false → M1 c i k = M c i k
theorem Sm.rf {M : Mem} : Sm M M := fun _ _ _ _ => rfl
theorem Sm.tr {A B C : Mem} (h : Sm A B) (h2 : Sm B C) : Sm A C := fun c i k hs => (h2 c i k hs).trans (h c i k hs)
theorem Sm.sy {A B : Mem} (h : Sm A B) : Sm B A := fun c i k hs => (h c i k hs).symm
theorem Sm_ms {M M1 : Mem} {c i k : Nat} {v : Int32} (h : Sm M M1) (hc : scr c k = true) : Sm M (ms M1 c i k v) := fun c' i' k' hs => by
  rw [ms_o]
  · exact h c' i' k' hs
  · rintro ⟨rfl, -, rfl⟩
    rw [hc] at hs
    cases hs
theorem Sm_clr {M M1 : Mem} {e : Nat} (h : Sm M M1) : Sm M (clr M1 e) := by
  refine Sm_ms ?_ rfl
  intro c' i' k' hs
  rw [zf, if_neg]
  · exact h c' i' k' hs
  · rintro ⟨rfl, -⟩
    simp [scr] at hs
theorem Sm_chg {M M1 : Mem} {e i : Nat} {b : Int32} (h : Sm M M1) : Sm M (chg M1 e i b) := by
  unfold chg
  split
  · exact Sm_ms h rfl
  · split
    · exact Sm_ms (Sm_ms h rfl) rfl
    · exact Sm_ms (Sm_ms h rfl) rfl
/-- what stands between calls: numbers are in their ranges -/
def DI (M : Mem) : Prop := Rg (M 2 0 2) 13 ∧ Rg (M 2 0 3) 7 ∧ Rg (M 2 0 4) 6 ∧ ∀ i, i < 12 → Rg (M 1 i 1) 4 ∧ Rg (M 1 i 4) 10 ∧ Rg (M 1 i 5) 10
theorem DI.sm {M M1 : Mem} (h : DI M) (hs : Sm M M1) : DI M1 := by
  unfold DI
  rw [hs 2 0 2 rfl, hs 2 0 3 rfl, hs 2 0 4 rfl]
  refine ⟨h.1, h.2.1, h.2.2.1, fun i hi => ?_⟩
  rw [hs 1 i 1 rfl, hs 1 i 4 rfl, hs 1 i 5 rfl]
  exact h.2.2.2 i hi
theorem DI_chg {M : Mem} {e i : Nat} {b : Int32} (h : DI M) : DI (chg M e i b) := h.sm (Sm_chg Sm.rf)
theorem DI_clr {M : Mem} {e : Nat} (h : DI M) : DI (clr M e) := h.sm (Sm_clr Sm.rf)
theorem DI_scr {M : Mem} {c i k : Nat} {v : Int32} (hc : scr c k = true) (h : DI M) : DI (ms M c i k v) := h.sm (Sm_ms Sm.rf hc)
/-- the first n steps of a loop over a counter -/
def itn (g : Nat → Mem → Mem) : Nat → Mem → Mem
  | 0, M => M
  | n + 1, M => g n (itn g n M)
theorem Sm_itn {M M1 : Mem} {g : Nat → Mem → Mem} (hg : ∀ k A, Sm M A → Sm M (g k A)) (h : Sm M M1) : ∀ n, Sm M (itn g n M1)
  | 0 => h
  | n + 1 => hg n _ (Sm_itn hg h n)
set_option maxHeartbeats 4000000 in
set_option maxRecDepth 100000 in
theorem c_X0_changeNeed {l : Launch} {w : Wo} {M : Mem} {G : Lng} {e9 i : Nat} {b9 : Int32} (hnt : l.stackTraces = false) (hw : WK w) (he : e9 < 5) (hi : i < 12) (hD : DI M) : CT l yX0_changeNeed [Cond.code yX0_changeNeed cX0_changeNeed 5 none] 2 0 0 w [.ref (w.1 (0, e9)), .ref (w.1 (1, i)), .int b9] M G (okO none (chg M e9 i b9) G) := by
  refine CT_of hnt hw.1 mw_X0_changeNeed (by simp [Value.category]) (Nat.le_of_ble_eq_true rfl) (fun p e s m args below meth c X => ?_)
  have hp := (hD.2.2.2 i hi).1
  have hdv := (hD.2.2.2 i hi).2.1
  have huv := (hD.2.2.2 i hi).2.2
  have hp1 := hp.1
  have hp2 := hp.2
  have hd1 := hdv.1
  have hd2 := hdv.2
  have hu1 := huv.1
  have hu2 := huv.2
  refine r_aload_n X dX0_changeNeed_0 rfl rfl ?_
  refine r_get X kc0 (j := 3) (hw.2 _ _ (by first | decide | (simp [cnt] <;> omega))) ev0 (by decide) rfl fl_X0_25 dX0_changeNeed_1 ?_
  refine r_bipush X dX0_changeNeed_4 (v := nI 99) (by decide) ?_
  first | with_reducible refine r_icmpn_ne X dX0_changeNeed_6 (tgt := 32) (by decide) (by omega) (by omega) (fun h1 => ?_) (fun h1 => ?_) | refine r_icmp_ne X dX0_changeNeed_6 (tgt := 32) (by decide) (fun h1 => ?_) (fun h1 => ?_)
  · refine r_aload_n X dX0_changeNeed_32 rfl rfl ?_
    refine r_get X kc0 (j := 3) (hw.2 _ _ (by first | decide | (simp [cnt] <;> omega))) ev0 (by decide) rfl fl_X0_25 dX0_changeNeed_33 ?_
    refine r_bipush X dX0_changeNeed_36 (v := nI 100) (by decide) ?_
    first | with_reducible refine r_icmpn_ne X dX0_changeNeed_38 (tgt := 48) (by decide) (by omega) (by omega) (fun h2 => ?_) (fun h2 => ?_) | refine r_icmp_ne X dX0_changeNeed_38 (tgt := 48) (by decide) (fun h2 => ?_) (fun h2 => ?_)
    · refine r_aload_n X dX0_changeNeed_48 rfl rfl ?_
      refine r_getN X kc1 (j := 5) (hw.2 _ _ (by first | decide | (simp [cnt] <;> omega))) ev1 (by decide) rfl fl_X0_85 dX0_changeNeed_49 ?_
      refine r_istore_n X dX0_changeNeed_52 rfl (by decide) rfl ?_
      refine r_iload_n X dX0_changeNeed_53 rfl rfl ?_
      refine r_iconst X dX0_changeNeed_54 (v := nI 0) (by decide) ?_
      refine r_bipush X dX0_changeNeed_55 (v := nI 9) (by decide) ?_
      refine r_callSN X (c_X2_isBetween hnt hw ) mw_X2_isBetween mi_X2_isBetween ml_X0_88 rfl rfl (Nat.le_of_ble_eq_true rfl) (by first | decide | (simp only [rmv]; omega)) (by first | decide | (simp only [rmv]; omega)) (by first | decide | (simp only [rmv]; omega)) (by first | decide | (simp only [rmv]; omega)) dX0_changeNeed_57 (ko1 ?_)
      first | with_reducible refine r_ifb_eq X dX0_changeNeed_60 (tgt := 75) (by decide) (fun h3 => ?_) (fun h3 => ?_) | refine r_if_eq X dX0_changeNeed_60 (tgt := 75) (by decide) (fun h3 => ?_) (fun h3 => ?_)
      · exact absurd h3 (by first | (rw [hol]; simp [hdv.btw]) | simp [hdv.btw (n := 9), huv.btw (n := 9), hp.btw (n := 3)])
      · refine r_aload_n X dX0_changeNeed_63 rfl rfl ?_
        refine r_getN X kc1 (j := 1) (hw.2 _ _ (by first | decide | (simp [cnt] <;> omega))) ev1 (by decide) rfl fl_X0_60 dX0_changeNeed_64 ?_
        refine r_iconst X dX0_changeNeed_67 (v := nI 0) (by decide) ?_
        refine r_iconst X dX0_changeNeed_68 (v := nI 3) (by decide) ?_
        refine r_callSN X (c_X2_isBetween hnt hw ) mw_X2_isBetween mi_X2_isBetween ml_X0_88 rfl rfl (Nat.le_of_ble_eq_true rfl) (by first | decide | (simp only [rmv]; omega)) (by first | decide | (simp only [rmv]; omega)) (by first | decide | (simp only [rmv]; omega)) (by first | decide | (simp only [rmv]; omega)) dX0_changeNeed_69 (ko1 ?_)
        first | with_reducible refine r_ifb_ne X dX0_changeNeed_72 (tgt := 76) (by decide) (fun h4 => ?_) (fun h4 => ?_) | refine r_if_ne X dX0_changeNeed_72 (tgt := 76) (by decide) (fun h4 => ?_) (fun h4 => ?_)
        · refine r_aload_n X dX0_changeNeed_76 rfl rfl ?_
          refine r_iload_n X dX0_changeNeed_77 rfl rfl ?_
          refine r_callV X (c_X0_unitsOfHolder hnt hw (by first | assumption | omega | (repeat (first | assumption | refine DI_chg ?_ | refine DI_clr ?_ | refine DI_scr rfl ?_))) (by first | assumption | omega | (repeat (first | assumption | refine DI_chg ?_ | refine DI_clr ?_ | refine DI_scr rfl ?_))) (by first | assumption | omega | (repeat (first | assumption | refine DI_chg ?_ | refine DI_clr ?_ | refine DI_scr rfl ?_)))) mw_X0_unitsOfHolder kc0 mi_X0_unitsOfHolder (hw.2 _ _ (by first | decide | (simp [cnt] <;> omega))) ev0 ml_X0_92 rfl rfl (Nat.le_of_ble_eq_true rfl) (by first | decide | (simp only [rmv]; omega)) (by first | decide | (simp only [rmv]; omega)) (by first | decide | (simp only [rmv]; omega)) (by first | decide | (simp only [rmv]; omega)) dX0_changeNeed_78 (ko1 ?_)
          refine r_istore X dX0_changeNeed_81 (by decide) rfl ?_
          refine r_aload_n X dX0_changeNeed_83 rfl rfl ?_
          refine r_get X kc0 (j := 11) (hw.2 _ _ (by first | decide | (simp [cnt] <;> omega))) ev0 (by decide) rfl fl_X0_9 dX0_changeNeed_84 ?_
          refine r_iload_n X dX0_changeNeed_87 rfl rfl ?_
          refine r_iconst X dX0_changeNeed_88 (v := nI 4) (by decide) ?_
          refine r_imul X dX0_changeNeed_89 ?_
          refine r_aload_n X dX0_changeNeed_90 rfl rfl ?_
          refine r_getN X kc1 (j := 1) (hw.2 _ _ (by first | decide | (simp [cnt] <;> omega))) ev1 (by decide) rfl fl_X0_60 dX0_changeNeed_91 ?_
          refine r_iadd X dX0_changeNeed_94 ?_
          refine r_dup2 X dX0_changeNeed_95 rfl rfl ?_
          refine r_iald X (hw.2 _ _ (by first | decide | (simp [cnt] <;> omega))) (evA (by decide) (by decide)) (by first | with_reducible rfl | assumption | (rw [pk_mul, nI_add]) | (rw [hd1, hp1, pk_mul, nI_add]) | (rw [hu1, hp1, pk_mul, nI_add])) (by first | assumption | (simp [alen] <;> omega)) (by decide) dX0_changeNeed_96 ?_
          refine r_iload_n X dX0_changeNeed_97 rfl rfl ?_
          refine r_iadd X dX0_changeNeed_98 ?_
          refine r_iast X (hw.2 _ _ (by first | decide | (simp [cnt] <;> omega))) (evA (by decide) (by decide)) (by first | with_reducible rfl | assumption | (rw [pk_mul, nI_add]) | (rw [hd1, hp1, pk_mul, nI_add]) | (rw [hu1, hp1, pk_mul, nI_add])) (by first | assumption | (simp [alen] <;> omega)) (by decide) rfl dX0_changeNeed_99 (esA (by decide) (by decide)) ?_
          refine r_aload_n X dX0_changeNeed_100 rfl rfl ?_
          refine r_dup X dX0_changeNeed_101 rfl ?_
          refine r_get X kc0 (j := 12) (hw.2 _ _ (by first | decide | (simp [cnt] <;> omega))) ev0 (by decide) rfl fl_X0_66 dX0_changeNeed_102 ?_
          refine r_aload_n X dX0_changeNeed_105 rfl rfl ?_
          refine r_iload_n X dX0_changeNeed_106 rfl rfl ?_
          refine r_callV X (c_X0_unitsOfHolder hnt hw (by first | assumption | omega | (repeat (first | assumption | refine DI_chg ?_ | refine DI_clr ?_ | refine DI_scr rfl ?_))) (by first | assumption | omega | (repeat (first | assumption | refine DI_chg ?_ | refine DI_clr ?_ | refine DI_scr rfl ?_))) (by first | assumption | omega | (repeat (first | assumption | refine DI_chg ?_ | refine DI_clr ?_ | refine DI_scr rfl ?_)))) mw_X0_unitsOfHolder kc0 mi_X0_unitsOfHolder (hw.2 _ _ (by first | decide | (simp [cnt] <;> omega))) ev0 ml_X0_92 rfl rfl (Nat.le_of_ble_eq_true rfl) (by first | decide | (simp only [rmv]; omega)) (by first | decide | (simp only [rmv]; omega)) (by first | decide | (simp only [rmv]; omega)) (by first | decide | (simp only [rmv]; omega)) dX0_changeNeed_107 (ko1 ?_)
          refine r_iload X dX0_changeNeed_110 rfl ?_
          refine r_isub X dX0_changeNeed_112 ?_
          refine r_iadd X dX0_changeNeed_113 ?_
          refine r_put X kc0 (j := 12) (hw.2 _ _ (by first | decide | (simp [cnt] <;> omega))) ev0 (by decide) (Nat.le_of_ble_eq_true rfl) fl_X0_66 rfl rfl rfl dX0_changeNeed_114 es_0_12 ?_
          refine r_vret X dX0_changeNeed_117 (by first | decide | (simp only [rmv]; omega)) (by first | decide | (simp only [rmv]; omega)) ?_
          first | with_reducible rfl | contradiction | assumption | (simp [chg, show ¬ (nI 100 = nI 99) from by decide, ms_o, h1, h2, h3, h4])
        · exact absurd h4 (by first | (rw [hol]; simp [hdv.btw]) | simp [hdv.btw (n := 9), huv.btw (n := 9), hp.btw (n := 3)])
    · refine r_aload_n X dX0_changeNeed_41 rfl rfl ?_
      refine r_getN X kc1 (j := 4) (hw.2 _ _ (by first | decide | (simp [cnt] <;> omega))) ev1 (by decide) rfl fl_X0_82 dX0_changeNeed_42 ?_
      refine r_goto X dX0_changeNeed_45 (tgt := 52) (by decide) ?_
      refine r_istore_n X dX0_changeNeed_52 rfl (by decide) rfl ?_
      refine r_iload_n X dX0_changeNeed_53 rfl rfl ?_
      refine r_iconst X dX0_changeNeed_54 (v := nI 0) (by decide) ?_
      refine r_bipush X dX0_changeNeed_55 (v := nI 9) (by decide) ?_
      refine r_callSN X (c_X2_isBetween hnt hw ) mw_X2_isBetween mi_X2_isBetween ml_X0_88 rfl rfl (Nat.le_of_ble_eq_true rfl) (by first | decide | (simp only [rmv]; omega)) (by first | decide | (simp only [rmv]; omega)) (by first | decide | (simp only [rmv]; omega)) (by first | decide | (simp only [rmv]; omega)) dX0_changeNeed_57 (ko1 ?_)
      first | with_reducible refine r_ifb_eq X dX0_changeNeed_60 (tgt := 75) (by decide) (fun h5 => ?_) (fun h5 => ?_) | refine r_if_eq X dX0_changeNeed_60 (tgt := 75) (by decide) (fun h5 => ?_) (fun h5 => ?_)
      · exact absurd h5 (by first | (rw [hol]; simp [hdv.btw]) | simp [hdv.btw (n := 9), huv.btw (n := 9), hp.btw (n := 3)])
      · refine r_aload_n X dX0_changeNeed_63 rfl rfl ?_
        refine r_getN X kc1 (j := 1) (hw.2 _ _ (by first | decide | (simp [cnt] <;> omega))) ev1 (by decide) rfl fl_X0_60 dX0_changeNeed_64 ?_
        refine r_iconst X dX0_changeNeed_67 (v := nI 0) (by decide) ?_
        refine r_iconst X dX0_changeNeed_68 (v := nI 3) (by decide) ?_
        refine r_callSN X (c_X2_isBetween hnt hw ) mw_X2_isBetween mi_X2_isBetween ml_X0_88 rfl rfl (Nat.le_of_ble_eq_true rfl) (by first | decide | (simp only [rmv]; omega)) (by first | decide | (simp only [rmv]; omega)) (by first | decide | (simp only [rmv]; omega)) (by first | decide | (simp only [rmv]; omega)) dX0_changeNeed_69 (ko1 ?_)
        first | with_reducible refine r_ifb_ne X dX0_changeNeed_72 (tgt := 76) (by decide) (fun h6 => ?_) (fun h6 => ?_) | refine r_if_ne X dX0_changeNeed_72 (tgt := 76) (by decide) (fun h6 => ?_) (fun h6 => ?_)
        · refine r_aload_n X dX0_changeNeed_76 rfl rfl ?_
          refine r_iload_n X dX0_changeNeed_77 rfl rfl ?_
          refine r_callV X (c_X0_unitsOfHolder hnt hw (by first | assumption | omega | (repeat (first | assumption | refine DI_chg ?_ | refine DI_clr ?_ | refine DI_scr rfl ?_))) (by first | assumption | omega | (repeat (first | assumption | refine DI_chg ?_ | refine DI_clr ?_ | refine DI_scr rfl ?_))) (by first | assumption | omega | (repeat (first | assumption | refine DI_chg ?_ | refine DI_clr ?_ | refine DI_scr rfl ?_)))) mw_X0_unitsOfHolder kc0 mi_X0_unitsOfHolder (hw.2 _ _ (by first | decide | (simp [cnt] <;> omega))) ev0 ml_X0_92 rfl rfl (Nat.le_of_ble_eq_true rfl) (by first | decide | (simp only [rmv]; omega)) (by first | decide | (simp only [rmv]; omega)) (by first | decide | (simp only [rmv]; omega)) (by first | decide | (simp only [rmv]; omega)) dX0_changeNeed_78 (ko1 ?_)
          refine r_istore X dX0_changeNeed_81 (by decide) rfl ?_
          refine r_aload_n X dX0_changeNeed_83 rfl rfl ?_
          refine r_get X kc0 (j := 11) (hw.2 _ _ (by first | decide | (simp [cnt] <;> omega))) ev0 (by decide) rfl fl_X0_9 dX0_changeNeed_84 ?_
          refine r_iload_n X dX0_changeNeed_87 rfl rfl ?_
          refine r_iconst X dX0_changeNeed_88 (v := nI 4) (by decide) ?_
          refine r_imul X dX0_changeNeed_89 ?_
          refine r_aload_n X dX0_changeNeed_90 rfl rfl ?_
          refine r_getN X kc1 (j := 1) (hw.2 _ _ (by first | decide | (simp [cnt] <;> omega))) ev1 (by decide) rfl fl_X0_60 dX0_changeNeed_91 ?_
          refine r_iadd X dX0_changeNeed_94 ?_
          refine r_dup2 X dX0_changeNeed_95 rfl rfl ?_
          refine r_iald X (hw.2 _ _ (by first | decide | (simp [cnt] <;> omega))) (evA (by decide) (by decide)) (by first | with_reducible rfl | assumption | (rw [pk_mul, nI_add]) | (rw [hd1, hp1, pk_mul, nI_add]) | (rw [hu1, hp1, pk_mul, nI_add])) (by first | assumption | (simp [alen] <;> omega)) (by decide) dX0_changeNeed_96 ?_
          refine r_iload_n X dX0_changeNeed_97 rfl rfl ?_
          refine r_iadd X dX0_changeNeed_98 ?_
          refine r_iast X (hw.2 _ _ (by first | decide | (simp [cnt] <;> omega))) (evA (by decide) (by decide)) (by first | with_reducible rfl | assumption | (rw [pk_mul, nI_add]) | (rw [hd1, hp1, pk_mul, nI_add]) | (rw [hu1, hp1, pk_mul, nI_add])) (by first | assumption | (simp [alen] <;> omega)) (by decide) rfl dX0_changeNeed_99 (esA (by decide) (by decide)) ?_
          refine r_aload_n X dX0_changeNeed_100 rfl rfl ?_
          refine r_dup X dX0_changeNeed_101 rfl ?_
          refine r_get X kc0 (j := 12) (hw.2 _ _ (by first | decide | (simp [cnt] <;> omega))) ev0 (by decide) rfl fl_X0_66 dX0_changeNeed_102 ?_
          refine r_aload_n X dX0_changeNeed_105 rfl rfl ?_
          refine r_iload_n X dX0_changeNeed_106 rfl rfl ?_
          refine r_callV X (c_X0_unitsOfHolder hnt hw (by first | assumption | omega | (repeat (first | assumption | refine DI_chg ?_ | refine DI_clr ?_ | refine DI_scr rfl ?_))) (by first | assumption | omega | (repeat (first | assumption | refine DI_chg ?_ | refine DI_clr ?_ | refine DI_scr rfl ?_))) (by first | assumption | omega | (repeat (first | assumption | refine DI_chg ?_ | refine DI_clr ?_ | refine DI_scr rfl ?_)))) mw_X0_unitsOfHolder kc0 mi_X0_unitsOfHolder (hw.2 _ _ (by first | decide | (simp [cnt] <;> omega))) ev0 ml_X0_92 rfl rfl (Nat.le_of_ble_eq_true rfl) (by first | decide | (simp only [rmv]; omega)) (by first | decide | (simp only [rmv]; omega)) (by first | decide | (simp only [rmv]; omega)) (by first | decide | (simp only [rmv]; omega)) dX0_changeNeed_107 (ko1 ?_)
          refine r_iload X dX0_changeNeed_110 rfl ?_
          refine r_isub X dX0_changeNeed_112 ?_
          refine r_iadd X dX0_changeNeed_113 ?_
          refine r_put X kc0 (j := 12) (hw.2 _ _ (by first | decide | (simp [cnt] <;> omega))) ev0 (by decide) (Nat.le_of_ble_eq_true rfl) fl_X0_66 rfl rfl rfl dX0_changeNeed_114 es_0_12 ?_
          refine r_vret X dX0_changeNeed_117 (by first | decide | (simp only [rmv]; omega)) (by first | decide | (simp only [rmv]; omega)) ?_
          first | with_reducible rfl | contradiction | assumption | (simp [chg, show ¬ (nI 100 = nI 99) from by decide, ms_o, h1, h2, h5, h6])
        · exact absurd h6 (by first | (rw [hol]; simp [hdv.btw]) | simp [hdv.btw (n := 9), huv.btw (n := 9), hp.btw (n := 3)])
  · refine r_aload_n X dX0_changeNeed_9 rfl rfl ?_
    refine r_dup X dX0_changeNeed_10 rfl ?_
    refine r_get X kc0 (j := 12) (hw.2 _ _ (by first | decide | (simp [cnt] <;> omega))) ev0 (by decide) rfl fl_X0_66 dX0_changeNeed_11 ?_
    refine r_iload_n X dX0_changeNeed_14 rfl rfl ?_
    refine r_aload_n X dX0_changeNeed_15 rfl rfl ?_
    refine r_getN X kc1 (j := 6) (hw.2 _ _ (by first | decide | (simp [cnt] <;> omega))) ev1 (by decide) rfl fl_X0_73 dX0_changeNeed_16 ?_
    refine r_aload_n X dX0_changeNeed_19 rfl rfl ?_
    refine r_get X kc0 (j := 6) (hw.2 _ _ (by first | decide | (simp [cnt] <;> omega))) ev0 (by decide) rfl fl_X0_35 dX0_changeNeed_20 ?_
    refine r_max X mx_X0_76 (by first | decide | (simp [Value.category, rmv] <;> omega)) (by first | decide | (simp only [rmv]; omega)) (by first | decide | (simp only [rmv]; omega)) (by first | decide | (simp only [rmv]; omega)) dX0_changeNeed_23 ?_
    refine r_imul X dX0_changeNeed_26 ?_
    refine r_iadd X dX0_changeNeed_27 ?_
    refine r_put X kc0 (j := 12) (hw.2 _ _ (by first | decide | (simp [cnt] <;> omega))) ev0 (by decide) (Nat.le_of_ble_eq_true rfl) fl_X0_66 rfl rfl rfl dX0_changeNeed_28 es_0_12 ?_
    refine r_vret X dX0_changeNeed_31 (by first | decide | (simp only [rmv]; omega)) (by first | decide | (simp only [rmv]; omega)) ?_
    first | with_reducible rfl | contradiction | assumption | (simp [chg, show ¬ (nI 100 = nI 99) from by decide, ms_o, h1])

set_option maxHeartbeats 4000000 in
set_option maxRecDepth 100000 in
theorem c_X0_serve {l : Launch} {w : Wo} {M : Mem} {G : Lng} {e9 i : Nat} (hnt : l.stackTraces = false) (hw : WK w) (he : e9 < 5) (hi : i < 12) (hD : DI M) : CT l yX0_serve [Cond.code yX0_serve cX0_serve 2 none] 3 0 0 w [.ref (w.1 (0, e9)), .ref (w.1 (1, i))] M G (okO none (chg M e9 i (nI 1)) G) := by
  refine CT_of hnt hw.1 mw_X0_serve (by simp [Value.category]) (Nat.le_of_ble_eq_true rfl) (fun p e s m args below meth c X => ?_)
  refine r_aload_n X dX0_serve_0 rfl rfl ?_
  refine r_aload_n X dX0_serve_1 rfl rfl ?_
  refine r_iconst X dX0_serve_2 (v := nI 1) (by decide) ?_
  refine r_callV X (c_X0_changeNeed hnt hw (by first | assumption | omega | (repeat (first | assumption | refine DI_chg ?_ | refine DI_clr ?_ | refine DI_scr rfl ?_))) (by first | assumption | omega | (repeat (first | assumption | refine DI_chg ?_ | refine DI_clr ?_ | refine DI_scr rfl ?_))) (by first | assumption | omega | (repeat (first | assumption | refine DI_chg ?_ | refine DI_clr ?_ | refine DI_scr rfl ?_)))) mw_X0_changeNeed kc0 mi_X0_changeNeed (hw.2 _ _ (by first | decide | (simp [cnt] <;> omega))) ev0 ml_X0_69 rfl rfl (Nat.le_of_ble_eq_true rfl) (by first | decide | (simp only [rmv]; omega)) (by first | decide | (simp only [rmv]; omega)) (by first | decide | (simp only [rmv]; omega)) (by first | decide | (simp only [rmv]; omega)) dX0_serve_3 (ko0 ?_)
  refine r_vret X dX0_serve_6 (by first | decide | (simp only [rmv]; omega)) (by first | decide | (simp only [rmv]; omega)) ?_
  first | with_reducible rfl | contradiction | assumption | (simp [])

set_option maxHeartbeats 4000000 in
set_option maxRecDepth 100000 in
theorem c_X0_release {l : Launch} {w : Wo} {M : Mem} {G : Lng} {e9 i : Nat} (hnt : l.stackTraces = false) (hw : WK w) (he : e9 < 5) (hi : i < 12) (hD : DI M) : CT l yX0_release [Cond.code yX0_release cX0_release 2 none] 3 0 0 w [.ref (w.1 (0, e9)), .ref (w.1 (1, i))] M G (okO none (chg M e9 i (-1)) G) := by
  refine CT_of hnt hw.1 mw_X0_release (by simp [Value.category]) (Nat.le_of_ble_eq_true rfl) (fun p e s m args below meth c X => ?_)
  refine r_aload_n X dX0_release_0 rfl rfl ?_
  refine r_aload_n X dX0_release_1 rfl rfl ?_
  refine r_iconst X dX0_release_2 (v := -1) (by decide) ?_
  refine r_callV X (c_X0_changeNeed hnt hw (by first | assumption | omega | (repeat (first | assumption | refine DI_chg ?_ | refine DI_clr ?_ | refine DI_scr rfl ?_))) (by first | assumption | omega | (repeat (first | assumption | refine DI_chg ?_ | refine DI_clr ?_ | refine DI_scr rfl ?_))) (by first | assumption | omega | (repeat (first | assumption | refine DI_chg ?_ | refine DI_clr ?_ | refine DI_scr rfl ?_)))) mw_X0_changeNeed kc0 mi_X0_changeNeed (hw.2 _ _ (by first | decide | (simp [cnt] <;> omega))) ev0 ml_X0_69 rfl rfl (Nat.le_of_ble_eq_true rfl) (by first | decide | (simp only [rmv]; omega)) (by first | decide | (simp only [rmv]; omega)) (by first | decide | (simp only [rmv]; omega)) (by first | decide | (simp only [rmv]; omega)) dX0_release_3 (ko0 ?_)
  refine r_vret X dX0_release_6 (by first | decide | (simp only [rmv]; omega)) (by first | decide | (simp only [rmv]; omega)) ?_
  first | with_reducible rfl | contradiction | assumption | (simp [])

end M2
end
section
/-! LOOKUPS AND WRITES OF THE CLASS -/
section M3
def thr (M : Mem) (x : Int32) : Bool := btw x (nI 0) (nI 11) && !decide (M 1 (ix x) 0 = 0)
theorem thr_Rg {M : Mem} {x : Int32} (h : thr M x = true) : Rg x 12 := by
  simp only [thr, Bool.and_eq_true] at h
  exact btw_Rg h.1 (by decide)
def eth (M : Mem) (x : Int32) : Bool := btw x (nI 0) (M 2 0 4 - nI 1)
theorem eth_nI {M : Mem} (hD : DI M) (x : Int32) : eth M x = true ↔ Rg x (ix (M 2 0 4)) := by
  obtain ⟨h1, h2⟩ := hD.2.2.1
  unfold eth
  rw [h1, ixn (show ix (M 2 0 4) < 2 ^ 31 by omega)]
  generalize ix (M 2 0 4) = n at h2
  match n, h2 with
  | 0, _ =>
    constructor
    · intro h
      simp only [btw, Bool.and_eq_true, Bool.not_eq_true', decide_eq_false_iff_not] at h
      obtain ⟨j, hj, rfl⟩ := nI_of (x := x) h.1
      exact absurd h.2 (by
        rw [Decidable.not_not, show nI 0 - nI 1 = -1 from by decide, Int32.lt_iff_toInt_lt, nI_toInt hj]
        show (-1 : Int) < _
        omega)
    · intro h
      exact absurd h.2 (Nat.not_lt_zero _)
  | n + 1, hn =>
    rw [pk_sub (by omega), show n + 1 - 1 = n by omega]
    exact ⟨fun h => btw_Rg h (by omega), fun h => h.btw (by omega)⟩
theorem eth_Rg {M : Mem} {x : Int32} (hD : DI M) (h : eth M x = true) : Rg x 5 := by
  have h1 := (eth_nI hD x).mp h
  have h2 := hD.2.2.1.2
  exact ⟨h1.1, by have := h1.2; omega⟩
theorem Rg_lt {x : Int32} {n m : Nat} (h : Rg x n) (hn : n ≤ 2 ^ 31) (hm : m < 2 ^ 31) (hx : x < nI m) : Rg x m := by
  refine ⟨h.1, ?_⟩
  rw [h.1, nI_ltI (by have := h.2; omega) hm] at hx
  exact hx
def fillI (M : Mem) (i : Nat) (p v e d u c q : Int32) : Mem := ms (ms (ms (ms (ms (ms (ms (ms M 1 i 0 (nI 1)) 1 i 1 p) 1 i 2 v) 1 i 3 e) 1 i 4 d) 1 i 5 u) 1 i 6 c) 1 i 7 q
def fillE (M : Mem) (e : Nat) (pr v ed m u po : Int32) : Mem := ms (ms (ms (ms (ms (ms (ms (ms M 0 e 0 pr) 0 e 1 v) 0 e 2 ed) 0 e 3 m) 0 e 4 u) 0 e 5 po) 0 e 6 (nI 1)) 0 e 7 (nI 10)
def fitI (p v e d u c q : Int32) : Bool := btw p (nI 0) (nI 3) && rel v e && hol d && hol u && btw c (nI 1) (nI 16) && pol q
def fitE (pr v ed m u po : Int32) : Bool := btw pr (nI 1) (nI 15) && rel v ed && met m && btw u (nI 0) (nI 99) && (pol po || decide (po = -1))
def oInstall (M : Mem) (G : Lng) (p v e d u c q : Int32) : Oc :=
  if fitI p v e d u c q = true then
    if nI 6 ≤ M 2 0 3 ∨ ¬ M 2 0 2 < nI 12 then thO xISE M G
    else okO (some (.int (M 2 0 2))) (ms (ms (fillI M (ix (M 2 0 2)) p v e d u c q) 2 0 2 (M 2 0 2 + nI 1)) 2 0 3 (M 2 0 3 + nI 1)) G
  else thO xIAE M G
def oRetire (M : Mem) (G : Lng) (x : Int32) : Oc := if thr M x = true then okO (some (.int (M 2 0 3 - nI 1))) (ms (ms M 1 (ix x) 0 (nI 0)) 2 0 3 (M 2 0 3 - nI 1)) G else thO xIOB M G
def oMoveTo (M : Mem) (G : Lng) (x d u : Int32) : Oc := if thr M x = true then (if (hol d && hol u) = true then okO (some (.int (M 1 (ix x) 4))) (ms (ms M 1 (ix x) 4 d) 1 (ix x) 5 u) G else thO xIAE M G) else thO xIOB M G
def oSetVersion (M : Mem) (G : Lng) (x v e : Int32) : Oc := if thr M x = true then (if rel v e = true then okO (some (.int (M 1 (ix x) 2))) (ms (ms M 1 (ix x) 2 v) 1 (ix x) 3 e) G else thO xIAE M G) else thO xIOB M G
def oSetPool (M : Mem) (G : Lng) (x q : Int32) : Oc := if thr M x = true then (if pol q = true then okO (some (.int (M 1 (ix x) 7))) (ms M 1 (ix x) 7 q) G else thO xIAE M G) else thO xIOB M G
def oEntitle (M : Mem) (G : Lng) (pr v ed m u po : Int32) : Oc :=
  if fitE pr v ed m u po = true then
    if ¬ M 2 0 4 < nI 5 then thO xISE M G
    else okO (some (.int (M 2 0 4))) (ms (fillE M (ix (M 2 0 4)) pr v ed m u po) 2 0 4 (M 2 0 4 + nI 1)) G
  else thO xIAE M G
def cr (M : Mem) (e : Nat) : Int32 := (if M 0 e 8 = 0 then nI 0 else nI 1) + (if M 0 e 9 = 0 then nI 0 else nI 1) + (if M 0 e 10 = 0 then nI 0 else nI 1)
def oSetRights (M : Mem) (G : Lng) (x : Int32) (a b c : Bool) : Oc := if eth M x = true then okO (some (.int (cr M (ix x)))) (ms (ms (ms M 0 (ix x) 8 (bi a)) 0 (ix x) 9 (bi b)) 0 (ix x) 10 (bi c)) G else thO xIOB M G
def oSetMinimum (M : Mem) (G : Lng) (x c : Int32) : Oc := if eth M x = true then (if btw c (nI 1) (nI 16) = true then (if M 0 (ix x) 3 = nI 99 then okO (some (.int (M 0 (ix x) 6))) (ms M 0 (ix x) 6 c) G else thO xUOE M G) else thO xIAE M G) else thO xIOB M G
def oSetPrice (M : Mem) (G : Lng) (x c : Int32) : Oc := if eth M x = true then (if btw c (nI 1) (nI 99) = true then okO (some (.int (M 0 (ix x) 7))) (ms M 0 (ix x) 7 c) G else thO xIAE M G) else thO xIOB M G
def oAddUnits (M : Mem) (G : Lng) (x u : Int32) : Oc := if eth M x = true then (if btw u (nI 1) (nI 99) = true then (if M 0 (ix x) 4 + u ≤ nI 999 then okO (some (.int (M 0 (ix x) 4 + u))) (ms M 0 (ix x) 4 (M 0 (ix x) 4 + u)) G else thO xISE M G) else thO xIAE M G) else thO xIOB M G
def oUnits (M : Mem) (G : Lng) (x : Int32) : Oc := if eth M x = true then okO (some (.int (M 0 (ix x) 4))) M G else thO xIOB M G
def oWhy (M : Mem) (G : Lng) (x y : Int32) : Oc := if thr M x = true then (if eth M y = true then okO (some (.int (mis M (ix y) (ix x)))) M G else thO xIOB M G) else thO xIOB M G
theorem mis_c (M : Mem) (e i : Nat) : narrow .char (.int (mis M e i)) = .int (mis M e i) := by
  unfold mis
  split
  · rfl
  · split
    · rfl
    · split
      · rfl
      · split <;> rfl
set_option maxHeartbeats 4000000 in
set_option maxRecDepth 100000 in
theorem c_X1_fill {l : Launch} {w : Wo} {M : Mem} {G : Lng} {i : Nat} {p9 v9 e9 d9 c9 u9 q9 : Int32} (hnt : l.stackTraces = false) (hw : WK w) (hi : i < 12) : CT l yX1_fill [Cond.code yX1_fill cX1_fill 8 none] 1 0 0 w [.ref (w.1 (1, i)), .int p9, .int v9, .int e9, .int d9, .int c9, .int u9, .int q9] M G (okO none (fillI M i p9 v9 e9 d9 c9 u9 q9) G) := by
  refine CT_of hnt hw.1 mw_X1_fill (by simp [Value.category]) (Nat.le_of_ble_eq_true rfl) (fun p e s m args below meth c X => ?_)
  refine r_aload_n X dX1_fill_0 rfl rfl ?_
  refine r_iconst X dX1_fill_1 (v := nI 1) (by decide) ?_
  refine r_put X kc1 (j := 0) (hw.2 _ _ (by first | decide | (simp [cnt] <;> omega))) ev1 (by decide) (Nat.le_of_ble_eq_true rfl) fl_X1_7 rfl (by first | exact nzb _ | rfl) (by first | exact fzb _ | rfl) dX1_fill_2 es_1_0 ?_
  refine r_aload_n X dX1_fill_5 rfl rfl ?_
  refine r_iload_n X dX1_fill_6 rfl rfl ?_
  refine r_put X kc1 (j := 1) (hw.2 _ _ (by first | decide | (simp [cnt] <;> omega))) ev1 (by decide) (Nat.le_of_ble_eq_true rfl) fl_X1_13 rfl rfl rfl dX1_fill_7 es_1_1 ?_
  refine r_aload_n X dX1_fill_10 rfl rfl ?_
  refine r_iload_n X dX1_fill_11 rfl rfl ?_
  refine r_put X kc1 (j := 2) (hw.2 _ _ (by first | decide | (simp [cnt] <;> omega))) ev1 (by decide) (Nat.le_of_ble_eq_true rfl) fl_X1_17 rfl rfl rfl dX1_fill_12 es_1_2 ?_
  refine r_aload_n X dX1_fill_15 rfl rfl ?_
  refine r_iload_n X dX1_fill_16 rfl rfl ?_
  refine r_put X kc1 (j := 3) (hw.2 _ _ (by first | decide | (simp [cnt] <;> omega))) ev1 (by decide) (Nat.le_of_ble_eq_true rfl) fl_X1_20 rfl rfl rfl dX1_fill_17 es_1_3 ?_
  refine r_aload_n X dX1_fill_20 rfl rfl ?_
  refine r_iload X dX1_fill_21 rfl ?_
  refine r_put X kc1 (j := 4) (hw.2 _ _ (by first | decide | (simp [cnt] <;> omega))) ev1 (by decide) (Nat.le_of_ble_eq_true rfl) fl_X1_23 rfl rfl rfl dX1_fill_23 es_1_4 ?_
  refine r_aload_n X dX1_fill_26 rfl rfl ?_
  refine r_iload X dX1_fill_27 rfl ?_
  refine r_put X kc1 (j := 5) (hw.2 _ _ (by first | decide | (simp [cnt] <;> omega))) ev1 (by decide) (Nat.le_of_ble_eq_true rfl) fl_X1_26 rfl rfl rfl dX1_fill_29 es_1_5 ?_
  refine r_aload_n X dX1_fill_32 rfl rfl ?_
  refine r_iload X dX1_fill_33 rfl ?_
  refine r_put X kc1 (j := 6) (hw.2 _ _ (by first | decide | (simp [cnt] <;> omega))) ev1 (by decide) (Nat.le_of_ble_eq_true rfl) fl_X1_29 rfl rfl rfl dX1_fill_35 es_1_6 ?_
  refine r_aload_n X dX1_fill_38 rfl rfl ?_
  refine r_iload X dX1_fill_39 rfl ?_
  refine r_put X kc1 (j := 7) (hw.2 _ _ (by first | decide | (simp [cnt] <;> omega))) ev1 (by decide) (Nat.le_of_ble_eq_true rfl) fl_X1_32 rfl rfl rfl dX1_fill_41 es_1_7 ?_
  refine r_vret X dX1_fill_44 (by first | decide | (simp only [rmv]; omega)) (by first | decide | (simp only [rmv]; omega)) ?_
  first | with_reducible rfl | contradiction | assumption | (rfl)

set_option maxHeartbeats 4000000 in
set_option maxRecDepth 100000 in
theorem c_X0_fill {l : Launch} {w : Wo} {M : Mem} {G : Lng} {i : Nat} {p9 v9 d9 m9 u9 q9 : Int32} (hnt : l.stackTraces = false) (hw : WK w) (hi : i < 5) (hm1 : narrow .char (.int m9) = .int m9) (hm2 : fits .char (.int m9) = true) : CT l yX0_fill [Cond.code yX0_fill cX0_fill 7 none] 1 0 0 w [.ref (w.1 (0, i)), .int p9, .int v9, .int d9, .int m9, .int u9, .int q9] M G (okO none (fillE M i p9 v9 d9 m9 u9 q9) G) := by
  refine CT_of hnt hw.1 mw_X0_fill (by simp [Value.category]) (Nat.le_of_ble_eq_true rfl) (fun p e s m args below meth c X => ?_)
  refine r_aload_n X dX0_fill_0 rfl rfl ?_
  refine r_iload_n X dX0_fill_1 rfl rfl ?_
  refine r_put X kc0 (j := 0) (hw.2 _ _ (by first | decide | (simp [cnt] <;> omega))) ev0 (by decide) (Nat.le_of_ble_eq_true rfl) fl_X0_15 rfl rfl rfl dX0_fill_2 es_0_0 ?_
  refine r_aload_n X dX0_fill_5 rfl rfl ?_
  refine r_iload_n X dX0_fill_6 rfl rfl ?_
  refine r_put X kc0 (j := 1) (hw.2 _ _ (by first | decide | (simp [cnt] <;> omega))) ev0 (by decide) (Nat.le_of_ble_eq_true rfl) fl_X0_19 rfl rfl rfl dX0_fill_7 es_0_1 ?_
  refine r_aload_n X dX0_fill_10 rfl rfl ?_
  refine r_iload_n X dX0_fill_11 rfl rfl ?_
  refine r_put X kc0 (j := 2) (hw.2 _ _ (by first | decide | (simp [cnt] <;> omega))) ev0 (by decide) (Nat.le_of_ble_eq_true rfl) fl_X0_22 rfl rfl rfl dX0_fill_12 es_0_2 ?_
  refine r_aload_n X dX0_fill_15 rfl rfl ?_
  refine r_iload X dX0_fill_16 rfl ?_
  refine r_put X kc0 (j := 3) (hw.2 _ _ (by first | decide | (simp [cnt] <;> omega))) ev0 (by decide) (Nat.le_of_ble_eq_true rfl) fl_X0_25 rfl (by assumption) (by assumption) dX0_fill_18 es_0_3 ?_
  refine r_aload_n X dX0_fill_21 rfl rfl ?_
  refine r_iload X dX0_fill_22 rfl ?_
  refine r_put X kc0 (j := 4) (hw.2 _ _ (by first | decide | (simp [cnt] <;> omega))) ev0 (by decide) (Nat.le_of_ble_eq_true rfl) fl_X0_29 rfl rfl rfl dX0_fill_24 es_0_4 ?_
  refine r_aload_n X dX0_fill_27 rfl rfl ?_
  refine r_iload X dX0_fill_28 rfl ?_
  refine r_put X kc0 (j := 5) (hw.2 _ _ (by first | decide | (simp [cnt] <;> omega))) ev0 (by decide) (Nat.le_of_ble_eq_true rfl) fl_X0_32 rfl rfl rfl dX0_fill_30 es_0_5 ?_
  refine r_aload_n X dX0_fill_33 rfl rfl ?_
  refine r_iconst X dX0_fill_34 (v := nI 1) (by decide) ?_
  refine r_put X kc0 (j := 6) (hw.2 _ _ (by first | decide | (simp [cnt] <;> omega))) ev0 (by decide) (Nat.le_of_ble_eq_true rfl) fl_X0_35 rfl rfl rfl dX0_fill_35 es_0_6 ?_
  refine r_aload_n X dX0_fill_38 rfl rfl ?_
  refine r_bipush X dX0_fill_39 (v := nI 10) (by decide) ?_
  refine r_put X kc0 (j := 7) (hw.2 _ _ (by first | decide | (simp [cnt] <;> omega))) ev0 (by decide) (Nat.le_of_ble_eq_true rfl) fl_X0_38 rfl rfl rfl dX0_fill_41 es_0_7 ?_
  refine r_vret X dX0_fill_44 (by first | decide | (simp only [rmv]; omega)) (by first | decide | (simp only [rmv]; omega)) ?_
  first | with_reducible rfl | contradiction | assumption | (rfl)

set_option maxHeartbeats 4000000 in
set_option maxRecDepth 100000 in
theorem c_X2_isThere {l : Launch} {w : Wo} {M : Mem} {G : Lng} {x : Int32} (hnt : l.stackTraces = false) (hw : WK w)  : CT l yX2_isThere [Cond.code yX2_isThere cX2_isThere 2 (some .boolean)] 2 0 0 w [.ref (w.1 (2, 0)), .int x] M G (okO (some (.int (bi (thr M x)))) M G) := by
  refine CT_of hnt hw.1 mw_X2_isThere (by simp [Value.category]) (Nat.le_of_ble_eq_true rfl) (fun p e s m args below meth c X => ?_)
  refine r_iload_n X dX2_isThere_0 rfl rfl ?_
  refine r_iconst X dX2_isThere_1 (v := nI 0) (by decide) ?_
  refine r_bipush X dX2_isThere_2 (v := nI 11) (by decide) ?_
  refine r_callS X (c_X2_isBetween hnt hw ) mw_X2_isBetween mi_X2_isBetween ml_X2_33 rfl rfl (Nat.le_of_ble_eq_true rfl) (by first | decide | (simp only [rmv]; omega)) (by first | decide | (simp only [rmv]; omega)) (by first | decide | (simp only [rmv]; omega)) (by first | decide | (simp only [rmv]; omega)) dX2_isThere_4 (ko1 ?_)
  first | with_reducible refine r_ifb_eq X dX2_isThere_7 (tgt := 26) (by decide) (fun h1 => ?_) (fun h1 => ?_) | refine r_if_eq X dX2_isThere_7 (tgt := 26) (by decide) (fun h1 => ?_) (fun h1 => ?_)
  · refine r_iconst X dX2_isThere_26 (v := nI 0) (by decide) ?_
    refine r_zret X dX2_isThere_27 (by first | decide | (simp only [rmv]; omega)) (by first | decide | (simp only [rmv]; omega)) (by with_reducible rfl) ?_
    first | with_reducible rfl | contradiction | (simp [thr, bi_f, bi_t, h1])
  · have hx1 := (btw_Rg h1 (by decide)).1
    have hx2 := (btw_Rg h1 (by decide)).2
    refine r_aload_n X dX2_isThere_10 rfl rfl ?_
    refine r_get X kc2 (j := 0) (hw.2 _ _ (by first | decide | (simp [cnt] <;> omega))) ev2 (by decide) rfl fl_X2_11 dX2_isThere_11 ?_
    refine r_iload_n X dX2_isThere_14 rfl rfl ?_
    first | refine r_aald X (t0 := 6) (hw.2 _ _ (by first | decide | (simp [cnt] <;> omega))) rfl ev4 (by first | with_reducible rfl | assumption | (rw [pk_mul, nI_add]) | (rw [hd1, hp1, pk_mul, nI_add]) | (rw [hu1, hp1, pk_mul, nI_add])) (by first | assumption | omega) (by decide) rfl dX2_isThere_15 ?_ | refine r_aald X (t0 := 5) (hw.2 _ _ (by first | decide | (simp [cnt] <;> omega))) rfl ev5 (by first | with_reducible rfl | assumption | (rw [pk_mul, nI_add]) | (rw [hd1, hp1, pk_mul, nI_add]) | (rw [hu1, hp1, pk_mul, nI_add])) (by first | assumption | omega) (by decide) rfl dX2_isThere_15 ?_
    refine r_getN X kc1 (j := 0) (hw.2 _ _ (by first | decide | (simp [cnt] <;> omega))) ev1 (by decide) rfl fl_X2_75 dX2_isThere_16 ?_
    first | with_reducible refine r_ifb_eq X dX2_isThere_19 (tgt := 26) (by decide) (fun h2 => ?_) (fun h2 => ?_) | refine r_if_eq X dX2_isThere_19 (tgt := 26) (by decide) (fun h2 => ?_) (fun h2 => ?_)
    · refine r_iconst X dX2_isThere_26 (v := nI 0) (by decide) ?_
      refine r_zret X dX2_isThere_27 (by first | decide | (simp only [rmv]; omega)) (by first | decide | (simp only [rmv]; omega)) (by with_reducible rfl) ?_
      first | with_reducible rfl | contradiction | (simp [thr, bi_f, bi_t, h1, h2])
    · refine r_iconst X dX2_isThere_22 (v := nI 1) (by decide) ?_
      refine r_goto X dX2_isThere_23 (tgt := 27) (by decide) ?_
      refine r_zret X dX2_isThere_27 (by first | decide | (simp only [rmv]; omega)) (by first | decide | (simp only [rmv]; omega)) (by with_reducible rfl) ?_
      first | with_reducible rfl | contradiction | (simp [thr, bi_f, bi_t, h1, h2])

set_option maxHeartbeats 4000000 in
set_option maxRecDepth 100000 in
theorem c_X2_installAt {l : Launch} {w : Wo} {M : Mem} {G : Lng} {x : Int32} (hnt : l.stackTraces = false) (hw : WK w)  : CT l yX2_installAt [Cond.code yX2_installAt cX2_installAt 2 (some (.object "Entitled$Install"))] 6 1 6 w [.ref (w.1 (2, 0)), .int x] M G (if thr M x = true then okO (some (.ref (w.1 (1, ix x)))) M G else thO xIOB M G) := by
  refine CT_of hnt hw.1 mw_X2_installAt (by simp [Value.category]) (Nat.le_of_ble_eq_true rfl) (fun p e s m args below meth c X => ?_)
  refine r_aload_n X dX2_installAt_0 rfl rfl ?_
  refine r_iload_n X dX2_installAt_1 rfl rfl ?_
  refine r_callV X (c_X2_isThere hnt hw ) mw_X2_isThere kc2 mi_X2_isThere (hw.2 _ _ (by first | decide | (simp [cnt] <;> omega))) ev2 ml_X2_236 rfl rfl (Nat.le_of_ble_eq_true rfl) (by first | decide | (simp only [rmv]; omega)) (by first | decide | (simp only [rmv]; omega)) (by first | decide | (simp only [rmv]; omega)) (by first | decide | (simp only [rmv]; omega)) dX2_installAt_2 (ko1 ?_)
  first | with_reducible refine r_ifb_ne X dX2_installAt_5 (tgt := 18) (by decide) (fun h1 => ?_) (fun h1 => ?_) | refine r_if_ne X dX2_installAt_5 (tgt := 18) (by decide) (fun h1 => ?_) (fun h1 => ?_)
  · have hx1 := (thr_Rg h1).1
    have hx2 := (thr_Rg h1).2
    refine r_aload_n X dX2_installAt_18 rfl rfl ?_
    refine r_get X kc2 (j := 0) (hw.2 _ _ (by first | decide | (simp [cnt] <;> omega))) ev2 (by decide) rfl fl_X2_11 dX2_installAt_19 ?_
    refine r_iload_n X dX2_installAt_22 rfl rfl ?_
    first | refine r_aald X (t0 := 6) (hw.2 _ _ (by first | decide | (simp [cnt] <;> omega))) rfl ev4 (by first | with_reducible rfl | assumption | (rw [pk_mul, nI_add]) | (rw [hd1, hp1, pk_mul, nI_add]) | (rw [hu1, hp1, pk_mul, nI_add])) (by first | assumption | omega) (by decide) rfl dX2_installAt_23 ?_ | refine r_aald X (t0 := 5) (hw.2 _ _ (by first | decide | (simp [cnt] <;> omega))) rfl ev5 (by first | with_reducible rfl | assumption | (rw [pk_mul, nI_add]) | (rw [hd1, hp1, pk_mul, nI_add]) | (rw [hu1, hp1, pk_mul, nI_add])) (by first | assumption | omega) (by decide) rfl dX2_installAt_23 ?_
    refine r_aret X dX2_installAt_24 (by first | decide | (simp only [rmv]; omega)) (by first | decide | (simp only [rmv]; omega)) ?_
    first | with_reducible rfl | contradiction | assumption | (simp [h1])
  · refine r_throwS X (cls := xIOB) (by decide +kernel) kl_239 ki_xIOB (sw_241) at_xIOB dX2_installAt_8 dX2_installAt_11 dX2_installAt_12 dX2_installAt_14 dX2_installAt_17 (by first | decide | (simp only [rmv]; omega)) (by first | decide | (simp [Value.category, rmv] <;> omega)) (by first | decide | (simp only [rmv]; omega)) (by first | decide | (simp only [rmv]; omega)) (by first | decide | (simp only [rmv]; omega)) (by first | decide | (simp only [rmv]; omega)) ?_
    simp [h1]

set_option maxHeartbeats 4000000 in
set_option maxRecDepth 100000 in
theorem c_X2_entitlementAt {l : Launch} {w : Wo} {M : Mem} {G : Lng} {x : Int32} (hnt : l.stackTraces = false) (hw : WK w) (hD : DI M) : CT l yX2_entitlementAt [Cond.code yX2_entitlementAt cX2_entitlementAt 2 (some (.object "Entitled$Entitlement"))] 6 1 6 w [.ref (w.1 (2, 0)), .int x] M G (if eth M x = true then okO (some (.ref (w.1 (0, ix x)))) M G else thO xIOB M G) := by
  refine CT_of hnt hw.1 mw_X2_entitlementAt (by simp [Value.category]) (Nat.le_of_ble_eq_true rfl) (fun p e s m args below meth c X => ?_)
  refine r_iload_n X dX2_entitlementAt_0 rfl rfl ?_
  refine r_iconst X dX2_entitlementAt_1 (v := nI 0) (by decide) ?_
  refine r_aload_n X dX2_entitlementAt_2 rfl rfl ?_
  refine r_get X kc2 (j := 4) (hw.2 _ _ (by first | decide | (simp [cnt] <;> omega))) ev2 (by decide) rfl fl_X2_106 dX2_entitlementAt_3 ?_
  refine r_iconst X dX2_entitlementAt_6 (v := nI 1) (by decide) ?_
  refine r_isub X dX2_entitlementAt_7 ?_
  refine r_callS X (c_X2_isBetween hnt hw ) mw_X2_isBetween mi_X2_isBetween ml_X2_33 rfl rfl (Nat.le_of_ble_eq_true rfl) (by first | decide | (simp only [rmv]; omega)) (by first | decide | (simp only [rmv]; omega)) (by first | decide | (simp only [rmv]; omega)) (by first | decide | (simp only [rmv]; omega)) dX2_entitlementAt_8 (ko1 ?_)
  first | with_reducible refine r_ifb_ne X dX2_entitlementAt_11 (tgt := 24) (by decide) (fun h1 => ?_) (fun h1 => ?_) | refine r_if_ne X dX2_entitlementAt_11 (tgt := 24) (by decide) (fun h1 => ?_) (fun h1 => ?_)
  · have hx1 := (eth_Rg hD h1).1
    have hx2 := (eth_Rg hD h1).2
    refine r_aload_n X dX2_entitlementAt_24 rfl rfl ?_
    refine r_get X kc2 (j := 1) (hw.2 _ _ (by first | decide | (simp [cnt] <;> omega))) ev2 (by decide) rfl fl_X2_18 dX2_entitlementAt_25 ?_
    refine r_iload_n X dX2_entitlementAt_28 rfl rfl ?_
    first | refine r_aald X (t0 := 6) (hw.2 _ _ (by first | decide | (simp [cnt] <;> omega))) rfl ev4 (by first | with_reducible rfl | assumption | (rw [pk_mul, nI_add]) | (rw [hd1, hp1, pk_mul, nI_add]) | (rw [hu1, hp1, pk_mul, nI_add])) (by first | assumption | omega) (by decide) rfl dX2_entitlementAt_29 ?_ | refine r_aald X (t0 := 5) (hw.2 _ _ (by first | decide | (simp [cnt] <;> omega))) rfl ev5 (by first | with_reducible rfl | assumption | (rw [pk_mul, nI_add]) | (rw [hd1, hp1, pk_mul, nI_add]) | (rw [hu1, hp1, pk_mul, nI_add])) (by first | assumption | omega) (by decide) rfl dX2_entitlementAt_29 ?_
    refine r_aret X dX2_entitlementAt_30 (by first | decide | (simp only [rmv]; omega)) (by first | decide | (simp only [rmv]; omega)) ?_
    first | with_reducible rfl | contradiction | assumption | (simp [eth, h1])
  · refine r_throwS X (cls := xIOB) (by decide +kernel) kl_239 ki_xIOB (sw_244) at_xIOB dX2_entitlementAt_14 dX2_entitlementAt_17 dX2_entitlementAt_18 dX2_entitlementAt_20 dX2_entitlementAt_23 (by first | decide | (simp only [rmv]; omega)) (by first | decide | (simp [Value.category, rmv] <;> omega)) (by first | decide | (simp only [rmv]; omega)) (by first | decide | (simp only [rmv]; omega)) (by first | decide | (simp only [rmv]; omega)) (by first | decide | (simp only [rmv]; omega)) ?_
    simp [eth, h1]

set_option maxHeartbeats 4000000 in
set_option maxRecDepth 100000 in
theorem c_X2_install {l : Launch} {w : Wo} {M : Mem} {G : Lng} {p9 v9 e9 d9 c9 u9 q9 : Int32} (hnt : l.stackTraces = false) (hw : WK w) (hD : DI M) : CT l yX2_install [Cond.code yX2_install cX2_install 9 (some .int)] 7 4 24 w [.ref (w.1 (2, 0)), .int p9, .int v9, .int e9, .int d9, .int c9, .int u9, .int q9] M G (oInstall M G p9 v9 e9 d9 c9 u9 q9) := by
  refine CT_of hnt hw.1 mw_X2_install (by simp [Value.category]) (Nat.le_of_ble_eq_true rfl) (fun p e s m args below meth c X => ?_)
  refine r_iload_n X dX2_install_0 rfl rfl ?_
  refine r_iconst X dX2_install_1 (v := nI 0) (by decide) ?_
  refine r_iconst X dX2_install_2 (v := nI 3) (by decide) ?_
  refine r_callS X (c_X2_isBetween hnt hw ) mw_X2_isBetween mi_X2_isBetween ml_X2_33 rfl rfl (Nat.le_of_ble_eq_true rfl) (by first | decide | (simp only [rmv]; omega)) (by first | decide | (simp only [rmv]; omega)) (by first | decide | (simp only [rmv]; omega)) (by first | decide | (simp only [rmv]; omega)) dX2_install_3 (ko1 ?_)
  first | with_reducible refine r_ifb_eq X dX2_install_6 (tgt := 52) (by decide) (fun h1 => ?_) (fun h1 => ?_) | refine r_if_eq X dX2_install_6 (tgt := 52) (by decide) (fun h1 => ?_) (fun h1 => ?_)
  · refine r_throwS X (cls := xIAE) (by decide +kernel) kl_48 ki_xIAE (sw_50) at_xIAE dX2_install_52 dX2_install_55 dX2_install_56 dX2_install_58 dX2_install_61 (by first | decide | (simp only [rmv]; omega)) (by first | decide | (simp [Value.category, rmv] <;> omega)) (by first | decide | (simp only [rmv]; omega)) (by first | decide | (simp only [rmv]; omega)) (by first | decide | (simp only [rmv]; omega)) (by first | decide | (simp only [rmv]; omega)) ?_
    simp [oInstall, fitI, fillI, ms_o, ms_s, h1]
  · refine r_iload_n X dX2_install_9 rfl rfl ?_
    refine r_iload_n X dX2_install_10 rfl rfl ?_
    refine r_callS X (c_X2_isRelease hnt hw ) mw_X2_isRelease mi_X2_isRelease ml_X2_37 rfl rfl (Nat.le_of_ble_eq_true rfl) (by first | decide | (simp only [rmv]; omega)) (by first | decide | (simp only [rmv]; omega)) (by first | decide | (simp only [rmv]; omega)) (by first | decide | (simp only [rmv]; omega)) dX2_install_11 (ko1 ?_)
    first | with_reducible refine r_ifb_eq X dX2_install_14 (tgt := 52) (by decide) (fun h2 => ?_) (fun h2 => ?_) | refine r_if_eq X dX2_install_14 (tgt := 52) (by decide) (fun h2 => ?_) (fun h2 => ?_)
    · refine r_throwS X (cls := xIAE) (by decide +kernel) kl_48 ki_xIAE (sw_50) at_xIAE dX2_install_52 dX2_install_55 dX2_install_56 dX2_install_58 dX2_install_61 (by first | decide | (simp only [rmv]; omega)) (by first | decide | (simp [Value.category, rmv] <;> omega)) (by first | decide | (simp only [rmv]; omega)) (by first | decide | (simp only [rmv]; omega)) (by first | decide | (simp only [rmv]; omega)) (by first | decide | (simp only [rmv]; omega)) ?_
      simp [oInstall, fitI, fillI, ms_o, ms_s, h1, h2]
    · refine r_iload X dX2_install_17 rfl ?_
      refine r_callS X (c_X2_isHolder hnt hw ) mw_X2_isHolder mi_X2_isHolder ml_X2_41 rfl rfl (Nat.le_of_ble_eq_true rfl) (by first | decide | (simp only [rmv]; omega)) (by first | decide | (simp only [rmv]; omega)) (by first | decide | (simp only [rmv]; omega)) (by first | decide | (simp only [rmv]; omega)) dX2_install_19 (ko1 ?_)
      first | with_reducible refine r_ifb_eq X dX2_install_22 (tgt := 52) (by decide) (fun h3 => ?_) (fun h3 => ?_) | refine r_if_eq X dX2_install_22 (tgt := 52) (by decide) (fun h3 => ?_) (fun h3 => ?_)
      · refine r_throwS X (cls := xIAE) (by decide +kernel) kl_48 ki_xIAE (sw_50) at_xIAE dX2_install_52 dX2_install_55 dX2_install_56 dX2_install_58 dX2_install_61 (by first | decide | (simp only [rmv]; omega)) (by first | decide | (simp [Value.category, rmv] <;> omega)) (by first | decide | (simp only [rmv]; omega)) (by first | decide | (simp only [rmv]; omega)) (by first | decide | (simp only [rmv]; omega)) (by first | decide | (simp only [rmv]; omega)) ?_
        simp [oInstall, fitI, fillI, ms_o, ms_s, h1, h2, h3]
      · refine r_iload X dX2_install_25 rfl ?_
        refine r_callS X (c_X2_isHolder hnt hw ) mw_X2_isHolder mi_X2_isHolder ml_X2_41 rfl rfl (Nat.le_of_ble_eq_true rfl) (by first | decide | (simp only [rmv]; omega)) (by first | decide | (simp only [rmv]; omega)) (by first | decide | (simp only [rmv]; omega)) (by first | decide | (simp only [rmv]; omega)) dX2_install_27 (ko1 ?_)
        first | with_reducible refine r_ifb_eq X dX2_install_30 (tgt := 52) (by decide) (fun h4 => ?_) (fun h4 => ?_) | refine r_if_eq X dX2_install_30 (tgt := 52) (by decide) (fun h4 => ?_) (fun h4 => ?_)
        · refine r_throwS X (cls := xIAE) (by decide +kernel) kl_48 ki_xIAE (sw_50) at_xIAE dX2_install_52 dX2_install_55 dX2_install_56 dX2_install_58 dX2_install_61 (by first | decide | (simp only [rmv]; omega)) (by first | decide | (simp [Value.category, rmv] <;> omega)) (by first | decide | (simp only [rmv]; omega)) (by first | decide | (simp only [rmv]; omega)) (by first | decide | (simp only [rmv]; omega)) (by first | decide | (simp only [rmv]; omega)) ?_
          simp [oInstall, fitI, fillI, ms_o, ms_s, h1, h2, h3, h4]
        · refine r_iload X dX2_install_33 rfl ?_
          refine r_iconst X dX2_install_35 (v := nI 1) (by decide) ?_
          refine r_bipush X dX2_install_36 (v := nI 16) (by decide) ?_
          refine r_callS X (c_X2_isBetween hnt hw ) mw_X2_isBetween mi_X2_isBetween ml_X2_33 rfl rfl (Nat.le_of_ble_eq_true rfl) (by first | decide | (simp only [rmv]; omega)) (by first | decide | (simp only [rmv]; omega)) (by first | decide | (simp only [rmv]; omega)) (by first | decide | (simp only [rmv]; omega)) dX2_install_38 (ko1 ?_)
          first | with_reducible refine r_ifb_eq X dX2_install_41 (tgt := 52) (by decide) (fun h5 => ?_) (fun h5 => ?_) | refine r_if_eq X dX2_install_41 (tgt := 52) (by decide) (fun h5 => ?_) (fun h5 => ?_)
          · refine r_throwS X (cls := xIAE) (by decide +kernel) kl_48 ki_xIAE (sw_50) at_xIAE dX2_install_52 dX2_install_55 dX2_install_56 dX2_install_58 dX2_install_61 (by first | decide | (simp only [rmv]; omega)) (by first | decide | (simp [Value.category, rmv] <;> omega)) (by first | decide | (simp only [rmv]; omega)) (by first | decide | (simp only [rmv]; omega)) (by first | decide | (simp only [rmv]; omega)) (by first | decide | (simp only [rmv]; omega)) ?_
            simp [oInstall, fitI, fillI, ms_o, ms_s, h1, h2, h3, h4, h5]
          · refine r_iload X dX2_install_44 rfl ?_
            refine r_callS X (c_X2_isPool hnt hw ) mw_X2_isPool mi_X2_isPool ml_X2_45 rfl rfl (Nat.le_of_ble_eq_true rfl) (by first | decide | (simp only [rmv]; omega)) (by first | decide | (simp only [rmv]; omega)) (by first | decide | (simp only [rmv]; omega)) (by first | decide | (simp only [rmv]; omega)) dX2_install_46 (ko1 ?_)
            first | with_reducible refine r_ifb_ne X dX2_install_49 (tgt := 62) (by decide) (fun h6 => ?_) (fun h6 => ?_) | refine r_if_ne X dX2_install_49 (tgt := 62) (by decide) (fun h6 => ?_) (fun h6 => ?_)
            · refine r_aload_n X dX2_install_62 rfl rfl ?_
              refine r_get X kc2 (j := 3) (hw.2 _ _ (by first | decide | (simp [cnt] <;> omega))) ev2 (by decide) rfl fl_X2_55 dX2_install_63 ?_
              refine r_bipush X dX2_install_66 (v := nI 6) (by decide) ?_
              first | with_reducible refine r_icmpn_ge X dX2_install_68 (tgt := 80) (by decide) (by omega) (by omega) (fun h7 => ?_) (fun h7 => ?_) | refine r_icmp_ge X dX2_install_68 (tgt := 80) (by decide) (fun h7 => ?_) (fun h7 => ?_)
              · refine r_throwS X (cls := xISE) (by decide +kernel) kl_62 ki_xISE (sw_64) at_xISE dX2_install_80 dX2_install_83 dX2_install_84 dX2_install_86 dX2_install_89 (by first | decide | (simp only [rmv]; omega)) (by first | decide | (simp [Value.category, rmv] <;> omega)) (by first | decide | (simp only [rmv]; omega)) (by first | decide | (simp only [rmv]; omega)) (by first | decide | (simp only [rmv]; omega)) (by first | decide | (simp only [rmv]; omega)) ?_
                simp [oInstall, fitI, fillI, ms_o, ms_s, h1, h2, h3, h4, h5, h6, h7]
              · refine r_aload_n X dX2_install_71 rfl rfl ?_
                refine r_get X kc2 (j := 2) (hw.2 _ _ (by first | decide | (simp [cnt] <;> omega))) ev2 (by decide) rfl fl_X2_59 dX2_install_72 ?_
                refine r_bipush X dX2_install_75 (v := nI 12) (by decide) ?_
                first | with_reducible refine r_icmpn_lt X dX2_install_77 (tgt := 90) (by decide) (by omega) (by omega) (fun h8 => ?_) (fun h8 => ?_) | refine r_icmp_lt X dX2_install_77 (tgt := 90) (by decide) (fun h8 => ?_) (fun h8 => ?_)
                · have hm := Rg_lt hD.1 (by decide) (by decide) h8
                  have hm1 := hm.1
                  have hm2 := hm.2
                  refine r_aload_n X dX2_install_90 rfl rfl ?_
                  refine r_get X kc2 (j := 2) (hw.2 _ _ (by first | decide | (simp [cnt] <;> omega))) ev2 (by decide) rfl fl_X2_59 dX2_install_91 ?_
                  refine r_istore X dX2_install_94 (by decide) rfl ?_
                  refine r_aload_n X dX2_install_96 rfl rfl ?_
                  refine r_get X kc2 (j := 0) (hw.2 _ _ (by first | decide | (simp [cnt] <;> omega))) ev2 (by decide) rfl fl_X2_11 dX2_install_97 ?_
                  refine r_iload X dX2_install_100 rfl ?_
                  first | refine r_aald X (t0 := 6) (hw.2 _ _ (by first | decide | (simp [cnt] <;> omega))) rfl ev4 (by first | with_reducible rfl | assumption | (rw [pk_mul, nI_add]) | (rw [hd1, hp1, pk_mul, nI_add]) | (rw [hu1, hp1, pk_mul, nI_add])) (by first | assumption | omega) (by decide) rfl dX2_install_102 ?_ | refine r_aald X (t0 := 5) (hw.2 _ _ (by first | decide | (simp [cnt] <;> omega))) rfl ev5 (by first | with_reducible rfl | assumption | (rw [pk_mul, nI_add]) | (rw [hd1, hp1, pk_mul, nI_add]) | (rw [hu1, hp1, pk_mul, nI_add])) (by first | assumption | omega) (by decide) rfl dX2_install_102 ?_
                  refine r_iload_n X dX2_install_103 rfl rfl ?_
                  refine r_iload_n X dX2_install_104 rfl rfl ?_
                  refine r_iload_n X dX2_install_105 rfl rfl ?_
                  refine r_iload X dX2_install_106 rfl ?_
                  refine r_iload X dX2_install_108 rfl ?_
                  refine r_iload X dX2_install_110 rfl ?_
                  refine r_iload X dX2_install_112 rfl ?_
                  refine r_callVN X (c_X1_fill hnt hw (by first | assumption | omega | (repeat (first | assumption | refine DI_chg ?_ | refine DI_clr ?_ | refine DI_scr rfl ?_)))) mw_X1_fill kc1 mi_X1_fill (hw.2 _ _ (by first | decide | (simp [cnt] <;> omega))) ev1 ml_X2_67 rfl rfl (Nat.le_of_ble_eq_true rfl) (by first | decide | (simp only [rmv]; omega)) (by first | decide | (simp only [rmv]; omega)) (by first | decide | (simp only [rmv]; omega)) (by first | decide | (simp only [rmv]; omega)) dX2_install_114 (ko0 ?_)
                  refine r_aload_n X dX2_install_117 rfl rfl ?_
                  refine r_dup X dX2_install_118 rfl ?_
                  refine r_get X kc2 (j := 2) (hw.2 _ _ (by first | decide | (simp [cnt] <;> omega))) ev2 (by decide) rfl fl_X2_59 dX2_install_119 ?_
                  refine r_iconst X dX2_install_122 (v := nI 1) (by decide) ?_
                  refine r_iadd X dX2_install_123 ?_
                  refine r_put X kc2 (j := 2) (hw.2 _ _ (by first | decide | (simp [cnt] <;> omega))) ev2 (by decide) (Nat.le_of_ble_eq_true rfl) fl_X2_59 rfl rfl rfl dX2_install_124 es_2_2 ?_
                  refine r_aload_n X dX2_install_127 rfl rfl ?_
                  refine r_dup X dX2_install_128 rfl ?_
                  refine r_get X kc2 (j := 3) (hw.2 _ _ (by first | decide | (simp [cnt] <;> omega))) ev2 (by decide) rfl fl_X2_55 dX2_install_129 ?_
                  refine r_iconst X dX2_install_132 (v := nI 1) (by decide) ?_
                  refine r_iadd X dX2_install_133 ?_
                  refine r_put X kc2 (j := 3) (hw.2 _ _ (by first | decide | (simp [cnt] <;> omega))) ev2 (by decide) (Nat.le_of_ble_eq_true rfl) fl_X2_55 rfl rfl rfl dX2_install_134 es_2_3 ?_
                  refine r_iload X dX2_install_137 rfl ?_
                  refine r_iret X dX2_install_139 (by first | decide | (simp only [rmv]; omega)) (by first | decide | (simp only [rmv]; omega)) ?_
                  first | with_reducible rfl | contradiction | assumption | (simp [oInstall, fitI, fillI, ms_o, ms_s, h1, h2, h3, h4, h5, h6, h7, h8])
                · refine r_throwS X (cls := xISE) (by decide +kernel) kl_62 ki_xISE (sw_64) at_xISE dX2_install_80 dX2_install_83 dX2_install_84 dX2_install_86 dX2_install_89 (by first | decide | (simp only [rmv]; omega)) (by first | decide | (simp [Value.category, rmv] <;> omega)) (by first | decide | (simp only [rmv]; omega)) (by first | decide | (simp only [rmv]; omega)) (by first | decide | (simp only [rmv]; omega)) (by first | decide | (simp only [rmv]; omega)) ?_
                  simp [oInstall, fitI, fillI, ms_o, ms_s, h1, h2, h3, h4, h5, h6, h7, h8]
            · refine r_throwS X (cls := xIAE) (by decide +kernel) kl_48 ki_xIAE (sw_50) at_xIAE dX2_install_52 dX2_install_55 dX2_install_56 dX2_install_58 dX2_install_61 (by first | decide | (simp only [rmv]; omega)) (by first | decide | (simp [Value.category, rmv] <;> omega)) (by first | decide | (simp only [rmv]; omega)) (by first | decide | (simp only [rmv]; omega)) (by first | decide | (simp only [rmv]; omega)) (by first | decide | (simp only [rmv]; omega)) ?_
              simp [oInstall, fitI, fillI, ms_o, ms_s, h1, h2, h3, h4, h5, h6]

set_option maxHeartbeats 4000000 in
set_option maxRecDepth 100000 in
theorem c_X2_retire {l : Launch} {w : Wo} {M : Mem} {G : Lng} {x : Int32} (hnt : l.stackTraces = false) (hw : WK w)  : CT l yX2_retire [Cond.code yX2_retire cX2_retire 2 (some .int)] 7 4 24 w [.ref (w.1 (2, 0)), .int x] M G (oRetire M G x) := by
  refine CT_of hnt hw.1 mw_X2_retire (by simp [Value.category]) (Nat.le_of_ble_eq_true rfl) (fun p e s m args below meth c X => ?_)
  refine r_aload_n X dX2_retire_0 rfl rfl ?_
  refine r_iload_n X dX2_retire_1 rfl rfl ?_
  refine r_callV X (c_X2_installAt hnt hw ) mw_X2_installAt kc2 mi_X2_installAt (hw.2 _ _ (by first | decide | (simp [cnt] <;> omega))) ev2 ml_X2_71 rfl rfl (Nat.le_of_ble_eq_true rfl) (by first | decide | (simp only [rmv]; omega)) (by first | decide | (simp only [rmv]; omega)) (by first | decide | (simp only [rmv]; omega)) (by first | decide | (simp only [rmv]; omega)) dX2_retire_2 (koi (fun h1 => ko1 ?_) (fun h1 => kox ?_))
  · have hx1 := (thr_Rg h1).1
    have hx2 := (thr_Rg h1).2
    refine r_iconst X dX2_retire_5 (v := nI 0) (by decide) ?_
    refine r_putN X kc1 (j := 0) (hw.2 _ _ (by first | decide | (simp [cnt] <;> omega))) ev1 (by decide) (Nat.le_of_ble_eq_true rfl) fl_X2_75 rfl (by first | exact nzb _ | rfl) (by first | exact fzb _ | rfl) dX2_retire_6 es_1_0 ?_
    refine r_aload_n X dX2_retire_9 rfl rfl ?_
    refine r_dup X dX2_retire_10 rfl ?_
    refine r_get X kc2 (j := 3) (hw.2 _ _ (by first | decide | (simp [cnt] <;> omega))) ev2 (by decide) rfl fl_X2_55 dX2_retire_11 ?_
    refine r_iconst X dX2_retire_14 (v := nI 1) (by decide) ?_
    refine r_isub X dX2_retire_15 ?_
    refine r_put X kc2 (j := 3) (hw.2 _ _ (by first | decide | (simp [cnt] <;> omega))) ev2 (by decide) (Nat.le_of_ble_eq_true rfl) fl_X2_55 rfl rfl rfl dX2_retire_16 es_2_3 ?_
    refine r_aload_n X dX2_retire_19 rfl rfl ?_
    refine r_get X kc2 (j := 3) (hw.2 _ _ (by first | decide | (simp [cnt] <;> omega))) ev2 (by decide) rfl fl_X2_55 dX2_retire_20 ?_
    refine r_iret X dX2_retire_23 (by first | decide | (simp only [rmv]; omega)) (by first | decide | (simp only [rmv]; omega)) ?_
    first | with_reducible rfl | contradiction | assumption | (simp [oRetire, ms_o, ms_s, h1])
  · refine r_out X (by first | decide | (simp only [rmv]; omega)) (by first | decide | (simp only [rmv]; omega)) ?_
    simp [oRetire, ms_o, ms_s, h1]

set_option maxHeartbeats 4000000 in
set_option maxRecDepth 100000 in
theorem c_X2_moveTo {l : Launch} {w : Wo} {M : Mem} {G : Lng} {x d9 u9 : Int32} (hnt : l.stackTraces = false) (hw : WK w)  : CT l yX2_moveTo [Cond.code yX2_moveTo cX2_moveTo 6 (some .int)] 7 4 24 w [.ref (w.1 (2, 0)), .int x, .int d9, .int u9] M G (oMoveTo M G x d9 u9) := by
  refine CT_of hnt hw.1 mw_X2_moveTo (by simp [Value.category]) (Nat.le_of_ble_eq_true rfl) (fun p e s m args below meth c X => ?_)
  refine r_aload_n X dX2_moveTo_0 rfl rfl ?_
  refine r_iload_n X dX2_moveTo_1 rfl rfl ?_
  refine r_callV X (c_X2_installAt hnt hw ) mw_X2_installAt kc2 mi_X2_installAt (hw.2 _ _ (by first | decide | (simp [cnt] <;> omega))) ev2 ml_X2_71 rfl rfl (Nat.le_of_ble_eq_true rfl) (by first | decide | (simp only [rmv]; omega)) (by first | decide | (simp only [rmv]; omega)) (by first | decide | (simp only [rmv]; omega)) (by first | decide | (simp only [rmv]; omega)) dX2_moveTo_2 (koi (fun h1 => ko1 ?_) (fun h1 => kox ?_))
  · have hx1 := (thr_Rg h1).1
    have hx2 := (thr_Rg h1).2
    refine r_astore X dX2_moveTo_5 (by decide) rfl ?_
    refine r_iload_n X dX2_moveTo_7 rfl rfl ?_
    refine r_callS X (c_X2_isHolder hnt hw ) mw_X2_isHolder mi_X2_isHolder ml_X2_41 rfl rfl (Nat.le_of_ble_eq_true rfl) (by first | decide | (simp only [rmv]; omega)) (by first | decide | (simp only [rmv]; omega)) (by first | decide | (simp only [rmv]; omega)) (by first | decide | (simp only [rmv]; omega)) dX2_moveTo_8 (ko1 ?_)
    first | with_reducible refine r_ifb_eq X dX2_moveTo_11 (tgt := 21) (by decide) (fun h2 => ?_) (fun h2 => ?_) | refine r_if_eq X dX2_moveTo_11 (tgt := 21) (by decide) (fun h2 => ?_) (fun h2 => ?_)
    · refine r_throwS X (cls := xIAE) (by decide +kernel) kl_48 ki_xIAE (sw_79) at_xIAE dX2_moveTo_21 dX2_moveTo_24 dX2_moveTo_25 dX2_moveTo_27 dX2_moveTo_30 (by first | decide | (simp only [rmv]; omega)) (by first | decide | (simp [Value.category, rmv] <;> omega)) (by first | decide | (simp only [rmv]; omega)) (by first | decide | (simp only [rmv]; omega)) (by first | decide | (simp only [rmv]; omega)) (by first | decide | (simp only [rmv]; omega)) ?_
      simp [oMoveTo, ms_o, ms_s, h1, h2]
    · refine r_iload_n X dX2_moveTo_14 rfl rfl ?_
      refine r_callS X (c_X2_isHolder hnt hw ) mw_X2_isHolder mi_X2_isHolder ml_X2_41 rfl rfl (Nat.le_of_ble_eq_true rfl) (by first | decide | (simp only [rmv]; omega)) (by first | decide | (simp only [rmv]; omega)) (by first | decide | (simp only [rmv]; omega)) (by first | decide | (simp only [rmv]; omega)) dX2_moveTo_15 (ko1 ?_)
      first | with_reducible refine r_ifb_ne X dX2_moveTo_18 (tgt := 31) (by decide) (fun h3 => ?_) (fun h3 => ?_) | refine r_if_ne X dX2_moveTo_18 (tgt := 31) (by decide) (fun h3 => ?_) (fun h3 => ?_)
      · refine r_aload X dX2_moveTo_31 rfl ?_
        refine r_getN X kc1 (j := 4) (hw.2 _ _ (by first | decide | (simp [cnt] <;> omega))) ev1 (by decide) rfl fl_X2_81 dX2_moveTo_33 ?_
        refine r_istore X dX2_moveTo_36 (by decide) rfl ?_
        refine r_aload X dX2_moveTo_38 rfl ?_
        refine r_iload_n X dX2_moveTo_40 rfl rfl ?_
        refine r_putN X kc1 (j := 4) (hw.2 _ _ (by first | decide | (simp [cnt] <;> omega))) ev1 (by decide) (Nat.le_of_ble_eq_true rfl) fl_X2_81 rfl rfl rfl dX2_moveTo_41 es_1_4 ?_
        refine r_aload X dX2_moveTo_44 rfl ?_
        refine r_iload_n X dX2_moveTo_46 rfl rfl ?_
        refine r_putN X kc1 (j := 5) (hw.2 _ _ (by first | decide | (simp [cnt] <;> omega))) ev1 (by decide) (Nat.le_of_ble_eq_true rfl) fl_X2_84 rfl rfl rfl dX2_moveTo_47 es_1_5 ?_
        refine r_iload X dX2_moveTo_50 rfl ?_
        refine r_iret X dX2_moveTo_52 (by first | decide | (simp only [rmv]; omega)) (by first | decide | (simp only [rmv]; omega)) ?_
        first | with_reducible rfl | contradiction | assumption | (simp [oMoveTo, ms_o, ms_s, h1, h2, h3])
      · refine r_throwS X (cls := xIAE) (by decide +kernel) kl_48 ki_xIAE (sw_79) at_xIAE dX2_moveTo_21 dX2_moveTo_24 dX2_moveTo_25 dX2_moveTo_27 dX2_moveTo_30 (by first | decide | (simp only [rmv]; omega)) (by first | decide | (simp [Value.category, rmv] <;> omega)) (by first | decide | (simp only [rmv]; omega)) (by first | decide | (simp only [rmv]; omega)) (by first | decide | (simp only [rmv]; omega)) (by first | decide | (simp only [rmv]; omega)) ?_
        simp [oMoveTo, ms_o, ms_s, h1, h2, h3]
  · refine r_out X (by first | decide | (simp only [rmv]; omega)) (by first | decide | (simp only [rmv]; omega)) ?_
    simp [oMoveTo, ms_o, ms_s, h1]

set_option maxHeartbeats 4000000 in
set_option maxRecDepth 100000 in
theorem c_X2_setVersion {l : Launch} {w : Wo} {M : Mem} {G : Lng} {x d9 u9 : Int32} (hnt : l.stackTraces = false) (hw : WK w)  : CT l yX2_setVersion [Cond.code yX2_setVersion cX2_setVersion 6 (some .int)] 7 4 24 w [.ref (w.1 (2, 0)), .int x, .int d9, .int u9] M G (oSetVersion M G x d9 u9) := by
  refine CT_of hnt hw.1 mw_X2_setVersion (by simp [Value.category]) (Nat.le_of_ble_eq_true rfl) (fun p e s m args below meth c X => ?_)
  refine r_aload_n X dX2_setVersion_0 rfl rfl ?_
  refine r_iload_n X dX2_setVersion_1 rfl rfl ?_
  refine r_callV X (c_X2_installAt hnt hw ) mw_X2_installAt kc2 mi_X2_installAt (hw.2 _ _ (by first | decide | (simp [cnt] <;> omega))) ev2 ml_X2_71 rfl rfl (Nat.le_of_ble_eq_true rfl) (by first | decide | (simp only [rmv]; omega)) (by first | decide | (simp only [rmv]; omega)) (by first | decide | (simp only [rmv]; omega)) (by first | decide | (simp only [rmv]; omega)) dX2_setVersion_2 (koi (fun h1 => ko1 ?_) (fun h1 => kox ?_))
  · have hx1 := (thr_Rg h1).1
    have hx2 := (thr_Rg h1).2
    refine r_astore X dX2_setVersion_5 (by decide) rfl ?_
    refine r_iload_n X dX2_setVersion_7 rfl rfl ?_
    refine r_iload_n X dX2_setVersion_8 rfl rfl ?_
    refine r_callS X (c_X2_isRelease hnt hw ) mw_X2_isRelease mi_X2_isRelease ml_X2_37 rfl rfl (Nat.le_of_ble_eq_true rfl) (by first | decide | (simp only [rmv]; omega)) (by first | decide | (simp only [rmv]; omega)) (by first | decide | (simp only [rmv]; omega)) (by first | decide | (simp only [rmv]; omega)) dX2_setVersion_9 (ko1 ?_)
    first | with_reducible refine r_ifb_ne X dX2_setVersion_12 (tgt := 25) (by decide) (fun h2 => ?_) (fun h2 => ?_) | refine r_if_ne X dX2_setVersion_12 (tgt := 25) (by decide) (fun h2 => ?_) (fun h2 => ?_)
    · refine r_aload X dX2_setVersion_25 rfl ?_
      refine r_getN X kc1 (j := 2) (hw.2 _ _ (by first | decide | (simp [cnt] <;> omega))) ev1 (by decide) rfl fl_X2_89 dX2_setVersion_27 ?_
      refine r_istore X dX2_setVersion_30 (by decide) rfl ?_
      refine r_aload X dX2_setVersion_32 rfl ?_
      refine r_iload_n X dX2_setVersion_34 rfl rfl ?_
      refine r_putN X kc1 (j := 2) (hw.2 _ _ (by first | decide | (simp [cnt] <;> omega))) ev1 (by decide) (Nat.le_of_ble_eq_true rfl) fl_X2_89 rfl rfl rfl dX2_setVersion_35 es_1_2 ?_
      refine r_aload X dX2_setVersion_38 rfl ?_
      refine r_iload_n X dX2_setVersion_40 rfl rfl ?_
      refine r_putN X kc1 (j := 3) (hw.2 _ _ (by first | decide | (simp [cnt] <;> omega))) ev1 (by decide) (Nat.le_of_ble_eq_true rfl) fl_X2_92 rfl rfl rfl dX2_setVersion_41 es_1_3 ?_
      refine r_iload X dX2_setVersion_44 rfl ?_
      refine r_iret X dX2_setVersion_46 (by first | decide | (simp only [rmv]; omega)) (by first | decide | (simp only [rmv]; omega)) ?_
      first | with_reducible rfl | contradiction | assumption | (simp [oSetVersion, ms_o, ms_s, h1, h2])
    · refine r_throwS X (cls := xIAE) (by decide +kernel) kl_48 ki_xIAE (sw_87) at_xIAE dX2_setVersion_15 dX2_setVersion_18 dX2_setVersion_19 dX2_setVersion_21 dX2_setVersion_24 (by first | decide | (simp only [rmv]; omega)) (by first | decide | (simp [Value.category, rmv] <;> omega)) (by first | decide | (simp only [rmv]; omega)) (by first | decide | (simp only [rmv]; omega)) (by first | decide | (simp only [rmv]; omega)) (by first | decide | (simp only [rmv]; omega)) ?_
      simp [oSetVersion, ms_o, ms_s, h1, h2]
  · refine r_out X (by first | decide | (simp only [rmv]; omega)) (by first | decide | (simp only [rmv]; omega)) ?_
    simp [oSetVersion, ms_o, ms_s, h1]

set_option maxHeartbeats 4000000 in
set_option maxRecDepth 100000 in
theorem c_X2_setPool {l : Launch} {w : Wo} {M : Mem} {G : Lng} {x d9 : Int32} (hnt : l.stackTraces = false) (hw : WK w)  : CT l yX2_setPool [Cond.code yX2_setPool cX2_setPool 5 (some .int)] 7 4 24 w [.ref (w.1 (2, 0)), .int x, .int d9] M G (oSetPool M G x d9) := by
  refine CT_of hnt hw.1 mw_X2_setPool (by simp [Value.category]) (Nat.le_of_ble_eq_true rfl) (fun p e s m args below meth c X => ?_)
  refine r_aload_n X dX2_setPool_0 rfl rfl ?_
  refine r_iload_n X dX2_setPool_1 rfl rfl ?_
  refine r_callV X (c_X2_installAt hnt hw ) mw_X2_installAt kc2 mi_X2_installAt (hw.2 _ _ (by first | decide | (simp [cnt] <;> omega))) ev2 ml_X2_71 rfl rfl (Nat.le_of_ble_eq_true rfl) (by first | decide | (simp only [rmv]; omega)) (by first | decide | (simp only [rmv]; omega)) (by first | decide | (simp only [rmv]; omega)) (by first | decide | (simp only [rmv]; omega)) dX2_setPool_2 (koi (fun h1 => ko1 ?_) (fun h1 => kox ?_))
  · have hx1 := (thr_Rg h1).1
    have hx2 := (thr_Rg h1).2
    refine r_astore_n X dX2_setPool_5 rfl (by decide) rfl ?_
    refine r_iload_n X dX2_setPool_6 rfl rfl ?_
    refine r_callS X (c_X2_isPool hnt hw ) mw_X2_isPool mi_X2_isPool ml_X2_45 rfl rfl (Nat.le_of_ble_eq_true rfl) (by first | decide | (simp only [rmv]; omega)) (by first | decide | (simp only [rmv]; omega)) (by first | decide | (simp only [rmv]; omega)) (by first | decide | (simp only [rmv]; omega)) dX2_setPool_7 (ko1 ?_)
    first | with_reducible refine r_ifb_ne X dX2_setPool_10 (tgt := 23) (by decide) (fun h2 => ?_) (fun h2 => ?_) | refine r_if_ne X dX2_setPool_10 (tgt := 23) (by decide) (fun h2 => ?_) (fun h2 => ?_)
    · refine r_aload_n X dX2_setPool_23 rfl rfl ?_
      refine r_getN X kc1 (j := 7) (hw.2 _ _ (by first | decide | (simp [cnt] <;> omega))) ev1 (by decide) rfl fl_X2_97 dX2_setPool_24 ?_
      refine r_istore X dX2_setPool_27 (by decide) rfl ?_
      refine r_aload_n X dX2_setPool_29 rfl rfl ?_
      refine r_iload_n X dX2_setPool_30 rfl rfl ?_
      refine r_putN X kc1 (j := 7) (hw.2 _ _ (by first | decide | (simp [cnt] <;> omega))) ev1 (by decide) (Nat.le_of_ble_eq_true rfl) fl_X2_97 rfl rfl rfl dX2_setPool_31 es_1_7 ?_
      refine r_iload X dX2_setPool_34 rfl ?_
      refine r_iret X dX2_setPool_36 (by first | decide | (simp only [rmv]; omega)) (by first | decide | (simp only [rmv]; omega)) ?_
      first | with_reducible rfl | contradiction | assumption | (simp [oSetPool, ms_o, ms_s, h1, h2])
    · refine r_throwS X (cls := xIAE) (by decide +kernel) kl_48 ki_xIAE (sw_95) at_xIAE dX2_setPool_13 dX2_setPool_16 dX2_setPool_17 dX2_setPool_19 dX2_setPool_22 (by first | decide | (simp only [rmv]; omega)) (by first | decide | (simp [Value.category, rmv] <;> omega)) (by first | decide | (simp only [rmv]; omega)) (by first | decide | (simp only [rmv]; omega)) (by first | decide | (simp only [rmv]; omega)) (by first | decide | (simp only [rmv]; omega)) ?_
      simp [oSetPool, ms_o, ms_s, h1, h2]
  · refine r_out X (by first | decide | (simp only [rmv]; omega)) (by first | decide | (simp only [rmv]; omega)) ?_
    simp [oSetPool, ms_o, ms_s, h1]

set_option maxHeartbeats 4000000 in
set_option maxRecDepth 100000 in
theorem c_X2_installs {l : Launch} {w : Wo} {M : Mem} {G : Lng}  (hnt : l.stackTraces = false) (hw : WK w)  : CT l yX2_installs [Cond.code yX2_installs cX2_installs 1 (some .int)] 1 0 0 w [.ref (w.1 (2, 0))] M G (okO (some (.int (M 2 0 3))) M G) := by
  refine CT_of hnt hw.1 mw_X2_installs (by simp [Value.category]) (Nat.le_of_ble_eq_true rfl) (fun p e s m args below meth c X => ?_)
  refine r_aload_n X dX2_installs_0 rfl rfl ?_
  refine r_get X kc2 (j := 3) (hw.2 _ _ (by first | decide | (simp [cnt] <;> omega))) ev2 (by decide) rfl fl_X2_55 dX2_installs_1 ?_
  refine r_iret X dX2_installs_4 (by first | decide | (simp only [rmv]; omega)) (by first | decide | (simp only [rmv]; omega)) ?_
  first | with_reducible rfl | contradiction | assumption | (simp [])

set_option maxHeartbeats 4000000 in
set_option maxRecDepth 100000 in
theorem c_X2_entitle {l : Launch} {w : Wo} {M : Mem} {G : Lng} {p9 v9 d9 m9 u9 q9 : Int32} (hnt : l.stackTraces = false) (hw : WK w) (hD : DI M) (hm1 : narrow .char (.int m9) = .int m9) (hm2 : fits .char (.int m9) = true) : CT l yX2_entitle [Cond.code yX2_entitle cX2_entitle 8 (some .int)] 7 4 24 w [.ref (w.1 (2, 0)), .int p9, .int v9, .int d9, .int m9, .int u9, .int q9] M G (oEntitle M G p9 v9 d9 m9 u9 q9) := by
  refine CT_of hnt hw.1 mw_X2_entitle (by simp [Value.category]) (Nat.le_of_ble_eq_true rfl) (fun p e s m args below meth c X => ?_)
  refine r_iload_n X dX2_entitle_0 rfl rfl ?_
  refine r_iconst X dX2_entitle_1 (v := nI 1) (by decide) ?_
  refine r_bipush X dX2_entitle_2 (v := nI 15) (by decide) ?_
  refine r_callS X (c_X2_isBetween hnt hw ) mw_X2_isBetween mi_X2_isBetween ml_X2_33 rfl rfl (Nat.le_of_ble_eq_true rfl) (by first | decide | (simp only [rmv]; omega)) (by first | decide | (simp only [rmv]; omega)) (by first | decide | (simp only [rmv]; omega)) (by first | decide | (simp only [rmv]; omega)) dX2_entitle_4 (ko1 ?_)
  first | with_reducible refine r_ifb_eq X dX2_entitle_7 (tgt := 51) (by decide) (fun h1 => ?_) (fun h1 => ?_) | refine r_if_eq X dX2_entitle_7 (tgt := 51) (by decide) (fun h1 => ?_) (fun h1 => ?_)
  · refine r_throwS X (cls := xIAE) (by decide +kernel) kl_48 ki_xIAE (sw_104) at_xIAE dX2_entitle_51 dX2_entitle_54 dX2_entitle_55 dX2_entitle_57 dX2_entitle_60 (by first | decide | (simp only [rmv]; omega)) (by first | decide | (simp [Value.category, rmv] <;> omega)) (by first | decide | (simp only [rmv]; omega)) (by first | decide | (simp only [rmv]; omega)) (by first | decide | (simp only [rmv]; omega)) (by first | decide | (simp only [rmv]; omega)) ?_
    simp [oEntitle, fitE, fillE, ms_o, ms_s, h1]
  · refine r_iload_n X dX2_entitle_10 rfl rfl ?_
    refine r_iload_n X dX2_entitle_11 rfl rfl ?_
    refine r_callS X (c_X2_isRelease hnt hw ) mw_X2_isRelease mi_X2_isRelease ml_X2_37 rfl rfl (Nat.le_of_ble_eq_true rfl) (by first | decide | (simp only [rmv]; omega)) (by first | decide | (simp only [rmv]; omega)) (by first | decide | (simp only [rmv]; omega)) (by first | decide | (simp only [rmv]; omega)) dX2_entitle_12 (ko1 ?_)
    first | with_reducible refine r_ifb_eq X dX2_entitle_15 (tgt := 51) (by decide) (fun h2 => ?_) (fun h2 => ?_) | refine r_if_eq X dX2_entitle_15 (tgt := 51) (by decide) (fun h2 => ?_) (fun h2 => ?_)
    · refine r_throwS X (cls := xIAE) (by decide +kernel) kl_48 ki_xIAE (sw_104) at_xIAE dX2_entitle_51 dX2_entitle_54 dX2_entitle_55 dX2_entitle_57 dX2_entitle_60 (by first | decide | (simp only [rmv]; omega)) (by first | decide | (simp [Value.category, rmv] <;> omega)) (by first | decide | (simp only [rmv]; omega)) (by first | decide | (simp only [rmv]; omega)) (by first | decide | (simp only [rmv]; omega)) (by first | decide | (simp only [rmv]; omega)) ?_
      simp [oEntitle, fitE, fillE, ms_o, ms_s, h1, h2]
    · refine r_iload X dX2_entitle_18 rfl ?_
      refine r_callS X (c_X2_isMetric hnt hw ) mw_X2_isMetric mi_X2_isMetric ml_X2_100 rfl rfl (Nat.le_of_ble_eq_true rfl) (by first | decide | (simp only [rmv]; omega)) (by first | decide | (simp only [rmv]; omega)) (by first | decide | (simp only [rmv]; omega)) (by first | decide | (simp only [rmv]; omega)) dX2_entitle_20 (ko1 ?_)
      first | with_reducible refine r_ifb_eq X dX2_entitle_23 (tgt := 51) (by decide) (fun h3 => ?_) (fun h3 => ?_) | refine r_if_eq X dX2_entitle_23 (tgt := 51) (by decide) (fun h3 => ?_) (fun h3 => ?_)
      · refine r_throwS X (cls := xIAE) (by decide +kernel) kl_48 ki_xIAE (sw_104) at_xIAE dX2_entitle_51 dX2_entitle_54 dX2_entitle_55 dX2_entitle_57 dX2_entitle_60 (by first | decide | (simp only [rmv]; omega)) (by first | decide | (simp [Value.category, rmv] <;> omega)) (by first | decide | (simp only [rmv]; omega)) (by first | decide | (simp only [rmv]; omega)) (by first | decide | (simp only [rmv]; omega)) (by first | decide | (simp only [rmv]; omega)) ?_
        simp [oEntitle, fitE, fillE, ms_o, ms_s, h1, h2, h3]
      · refine r_iload X dX2_entitle_26 rfl ?_
        refine r_iconst X dX2_entitle_28 (v := nI 0) (by decide) ?_
        refine r_bipush X dX2_entitle_29 (v := nI 99) (by decide) ?_
        refine r_callS X (c_X2_isBetween hnt hw ) mw_X2_isBetween mi_X2_isBetween ml_X2_33 rfl rfl (Nat.le_of_ble_eq_true rfl) (by first | decide | (simp only [rmv]; omega)) (by first | decide | (simp only [rmv]; omega)) (by first | decide | (simp only [rmv]; omega)) (by first | decide | (simp only [rmv]; omega)) dX2_entitle_31 (ko1 ?_)
        first | with_reducible refine r_ifb_eq X dX2_entitle_34 (tgt := 51) (by decide) (fun h4 => ?_) (fun h4 => ?_) | refine r_if_eq X dX2_entitle_34 (tgt := 51) (by decide) (fun h4 => ?_) (fun h4 => ?_)
        · refine r_throwS X (cls := xIAE) (by decide +kernel) kl_48 ki_xIAE (sw_104) at_xIAE dX2_entitle_51 dX2_entitle_54 dX2_entitle_55 dX2_entitle_57 dX2_entitle_60 (by first | decide | (simp only [rmv]; omega)) (by first | decide | (simp [Value.category, rmv] <;> omega)) (by first | decide | (simp only [rmv]; omega)) (by first | decide | (simp only [rmv]; omega)) (by first | decide | (simp only [rmv]; omega)) (by first | decide | (simp only [rmv]; omega)) ?_
          simp [oEntitle, fitE, fillE, ms_o, ms_s, h1, h2, h3, h4]
        · refine r_iload X dX2_entitle_37 rfl ?_
          refine r_callS X (c_X2_isPool hnt hw ) mw_X2_isPool mi_X2_isPool ml_X2_45 rfl rfl (Nat.le_of_ble_eq_true rfl) (by first | decide | (simp only [rmv]; omega)) (by first | decide | (simp only [rmv]; omega)) (by first | decide | (simp only [rmv]; omega)) (by first | decide | (simp only [rmv]; omega)) dX2_entitle_39 (ko1 ?_)
          first | with_reducible refine r_ifb_ne X dX2_entitle_42 (tgt := 61) (by decide) (fun h5 => ?_) (fun h5 => ?_) | refine r_if_ne X dX2_entitle_42 (tgt := 61) (by decide) (fun h5 => ?_) (fun h5 => ?_)
          · refine r_aload_n X dX2_entitle_61 rfl rfl ?_
            refine r_get X kc2 (j := 4) (hw.2 _ _ (by first | decide | (simp [cnt] <;> omega))) ev2 (by decide) rfl fl_X2_106 dX2_entitle_62 ?_
            refine r_iconst X dX2_entitle_65 (v := nI 5) (by decide) ?_
            first | with_reducible refine r_icmpn_lt X dX2_entitle_66 (tgt := 79) (by decide) (by omega) (by omega) (fun h6 => ?_) (fun h6 => ?_) | refine r_icmp_lt X dX2_entitle_66 (tgt := 79) (by decide) (fun h6 => ?_) (fun h6 => ?_)
            · have hk := Rg_lt hD.2.2.1 (by decide) (by decide) h6
              have hk1 := hk.1
              have hk2 := hk.2
              refine r_aload_n X dX2_entitle_79 rfl rfl ?_
              refine r_get X kc2 (j := 4) (hw.2 _ _ (by first | decide | (simp [cnt] <;> omega))) ev2 (by decide) rfl fl_X2_106 dX2_entitle_80 ?_
              refine r_istore X dX2_entitle_83 (by decide) rfl ?_
              refine r_aload_n X dX2_entitle_85 rfl rfl ?_
              refine r_get X kc2 (j := 1) (hw.2 _ _ (by first | decide | (simp [cnt] <;> omega))) ev2 (by decide) rfl fl_X2_18 dX2_entitle_86 ?_
              refine r_iload X dX2_entitle_89 rfl ?_
              first | refine r_aald X (t0 := 6) (hw.2 _ _ (by first | decide | (simp [cnt] <;> omega))) rfl ev4 (by first | with_reducible rfl | assumption | (rw [pk_mul, nI_add]) | (rw [hd1, hp1, pk_mul, nI_add]) | (rw [hu1, hp1, pk_mul, nI_add])) (by first | assumption | omega) (by decide) rfl dX2_entitle_91 ?_ | refine r_aald X (t0 := 5) (hw.2 _ _ (by first | decide | (simp [cnt] <;> omega))) rfl ev5 (by first | with_reducible rfl | assumption | (rw [pk_mul, nI_add]) | (rw [hd1, hp1, pk_mul, nI_add]) | (rw [hu1, hp1, pk_mul, nI_add])) (by first | assumption | omega) (by decide) rfl dX2_entitle_91 ?_
              refine r_iload_n X dX2_entitle_92 rfl rfl ?_
              refine r_iload_n X dX2_entitle_93 rfl rfl ?_
              refine r_iload_n X dX2_entitle_94 rfl rfl ?_
              refine r_iload X dX2_entitle_95 rfl ?_
              refine r_iload X dX2_entitle_97 rfl ?_
              refine r_iload X dX2_entitle_99 rfl ?_
              refine r_callVN X (c_X0_fill hnt hw (by first | assumption | omega | (repeat (first | assumption | refine DI_chg ?_ | refine DI_clr ?_ | refine DI_scr rfl ?_))) (by first | assumption | omega | (repeat (first | assumption | refine DI_chg ?_ | refine DI_clr ?_ | refine DI_scr rfl ?_))) (by first | assumption | omega | (repeat (first | assumption | refine DI_chg ?_ | refine DI_clr ?_ | refine DI_scr rfl ?_)))) mw_X0_fill kc0 mi_X0_fill (hw.2 _ _ (by first | decide | (simp [cnt] <;> omega))) ev0 ml_X2_111 rfl rfl (Nat.le_of_ble_eq_true rfl) (by first | decide | (simp only [rmv]; omega)) (by first | decide | (simp only [rmv]; omega)) (by first | decide | (simp only [rmv]; omega)) (by first | decide | (simp only [rmv]; omega)) dX2_entitle_101 (ko0 ?_)
              refine r_aload_n X dX2_entitle_104 rfl rfl ?_
              refine r_dup X dX2_entitle_105 rfl ?_
              refine r_get X kc2 (j := 4) (hw.2 _ _ (by first | decide | (simp [cnt] <;> omega))) ev2 (by decide) rfl fl_X2_106 dX2_entitle_106 ?_
              refine r_iconst X dX2_entitle_109 (v := nI 1) (by decide) ?_
              refine r_iadd X dX2_entitle_110 ?_
              refine r_put X kc2 (j := 4) (hw.2 _ _ (by first | decide | (simp [cnt] <;> omega))) ev2 (by decide) (Nat.le_of_ble_eq_true rfl) fl_X2_106 rfl rfl rfl dX2_entitle_111 es_2_4 ?_
              refine r_iload X dX2_entitle_114 rfl ?_
              refine r_iret X dX2_entitle_116 (by first | decide | (simp only [rmv]; omega)) (by first | decide | (simp only [rmv]; omega)) ?_
              first | with_reducible rfl | contradiction | assumption | (simp [oEntitle, fitE, fillE, ms_o, ms_s, h1, h2, h3, h4, h5, h6])
            · refine r_throwS X (cls := xISE) (by decide +kernel) kl_62 ki_xISE (sw_109) at_xISE dX2_entitle_69 dX2_entitle_72 dX2_entitle_73 dX2_entitle_75 dX2_entitle_78 (by first | decide | (simp only [rmv]; omega)) (by first | decide | (simp [Value.category, rmv] <;> omega)) (by first | decide | (simp only [rmv]; omega)) (by first | decide | (simp only [rmv]; omega)) (by first | decide | (simp only [rmv]; omega)) (by first | decide | (simp only [rmv]; omega)) ?_
              simp [oEntitle, fitE, fillE, ms_o, ms_s, h1, h2, h3, h4, h5, h6]
          · refine r_iload X dX2_entitle_45 rfl ?_
            refine r_iconst X dX2_entitle_47 (v := -1) (by decide) ?_
            first | with_reducible refine r_icmpn_eq X dX2_entitle_48 (tgt := 61) (by decide) (by omega) (by omega) (fun h7 => ?_) (fun h7 => ?_) | refine r_icmp_eq X dX2_entitle_48 (tgt := 61) (by decide) (fun h7 => ?_) (fun h7 => ?_)
            · refine r_aload_n X dX2_entitle_61 rfl rfl ?_
              refine r_get X kc2 (j := 4) (hw.2 _ _ (by first | decide | (simp [cnt] <;> omega))) ev2 (by decide) rfl fl_X2_106 dX2_entitle_62 ?_
              refine r_iconst X dX2_entitle_65 (v := nI 5) (by decide) ?_
              first | with_reducible refine r_icmpn_lt X dX2_entitle_66 (tgt := 79) (by decide) (by omega) (by omega) (fun h8 => ?_) (fun h8 => ?_) | refine r_icmp_lt X dX2_entitle_66 (tgt := 79) (by decide) (fun h8 => ?_) (fun h8 => ?_)
              · have hk := Rg_lt hD.2.2.1 (by decide) (by decide) h8
                have hk1 := hk.1
                have hk2 := hk.2
                refine r_aload_n X dX2_entitle_79 rfl rfl ?_
                refine r_get X kc2 (j := 4) (hw.2 _ _ (by first | decide | (simp [cnt] <;> omega))) ev2 (by decide) rfl fl_X2_106 dX2_entitle_80 ?_
                refine r_istore X dX2_entitle_83 (by decide) rfl ?_
                refine r_aload_n X dX2_entitle_85 rfl rfl ?_
                refine r_get X kc2 (j := 1) (hw.2 _ _ (by first | decide | (simp [cnt] <;> omega))) ev2 (by decide) rfl fl_X2_18 dX2_entitle_86 ?_
                refine r_iload X dX2_entitle_89 rfl ?_
                first | refine r_aald X (t0 := 6) (hw.2 _ _ (by first | decide | (simp [cnt] <;> omega))) rfl ev4 (by first | with_reducible rfl | assumption | (rw [pk_mul, nI_add]) | (rw [hd1, hp1, pk_mul, nI_add]) | (rw [hu1, hp1, pk_mul, nI_add])) (by first | assumption | omega) (by decide) rfl dX2_entitle_91 ?_ | refine r_aald X (t0 := 5) (hw.2 _ _ (by first | decide | (simp [cnt] <;> omega))) rfl ev5 (by first | with_reducible rfl | assumption | (rw [pk_mul, nI_add]) | (rw [hd1, hp1, pk_mul, nI_add]) | (rw [hu1, hp1, pk_mul, nI_add])) (by first | assumption | omega) (by decide) rfl dX2_entitle_91 ?_
                refine r_iload_n X dX2_entitle_92 rfl rfl ?_
                refine r_iload_n X dX2_entitle_93 rfl rfl ?_
                refine r_iload_n X dX2_entitle_94 rfl rfl ?_
                refine r_iload X dX2_entitle_95 rfl ?_
                refine r_iload X dX2_entitle_97 rfl ?_
                refine r_iload X dX2_entitle_99 rfl ?_
                refine r_callVN X (c_X0_fill hnt hw (by first | assumption | omega | (repeat (first | assumption | refine DI_chg ?_ | refine DI_clr ?_ | refine DI_scr rfl ?_))) (by first | assumption | omega | (repeat (first | assumption | refine DI_chg ?_ | refine DI_clr ?_ | refine DI_scr rfl ?_))) (by first | assumption | omega | (repeat (first | assumption | refine DI_chg ?_ | refine DI_clr ?_ | refine DI_scr rfl ?_)))) mw_X0_fill kc0 mi_X0_fill (hw.2 _ _ (by first | decide | (simp [cnt] <;> omega))) ev0 ml_X2_111 rfl rfl (Nat.le_of_ble_eq_true rfl) (by first | decide | (simp only [rmv]; omega)) (by first | decide | (simp only [rmv]; omega)) (by first | decide | (simp only [rmv]; omega)) (by first | decide | (simp only [rmv]; omega)) dX2_entitle_101 (ko0 ?_)
                refine r_aload_n X dX2_entitle_104 rfl rfl ?_
                refine r_dup X dX2_entitle_105 rfl ?_
                refine r_get X kc2 (j := 4) (hw.2 _ _ (by first | decide | (simp [cnt] <;> omega))) ev2 (by decide) rfl fl_X2_106 dX2_entitle_106 ?_
                refine r_iconst X dX2_entitle_109 (v := nI 1) (by decide) ?_
                refine r_iadd X dX2_entitle_110 ?_
                refine r_put X kc2 (j := 4) (hw.2 _ _ (by first | decide | (simp [cnt] <;> omega))) ev2 (by decide) (Nat.le_of_ble_eq_true rfl) fl_X2_106 rfl rfl rfl dX2_entitle_111 es_2_4 ?_
                refine r_iload X dX2_entitle_114 rfl ?_
                refine r_iret X dX2_entitle_116 (by first | decide | (simp only [rmv]; omega)) (by first | decide | (simp only [rmv]; omega)) ?_
                first | with_reducible rfl | contradiction | assumption | (simp [oEntitle, fitE, fillE, ms_o, ms_s, h1, h2, h3, h4, h5, h7, h8])
              · refine r_throwS X (cls := xISE) (by decide +kernel) kl_62 ki_xISE (sw_109) at_xISE dX2_entitle_69 dX2_entitle_72 dX2_entitle_73 dX2_entitle_75 dX2_entitle_78 (by first | decide | (simp only [rmv]; omega)) (by first | decide | (simp [Value.category, rmv] <;> omega)) (by first | decide | (simp only [rmv]; omega)) (by first | decide | (simp only [rmv]; omega)) (by first | decide | (simp only [rmv]; omega)) (by first | decide | (simp only [rmv]; omega)) ?_
                simp [oEntitle, fitE, fillE, ms_o, ms_s, h1, h2, h3, h4, h5, h7, h8]
            · refine r_throwS X (cls := xIAE) (by decide +kernel) kl_48 ki_xIAE (sw_104) at_xIAE dX2_entitle_51 dX2_entitle_54 dX2_entitle_55 dX2_entitle_57 dX2_entitle_60 (by first | decide | (simp only [rmv]; omega)) (by first | decide | (simp [Value.category, rmv] <;> omega)) (by first | decide | (simp only [rmv]; omega)) (by first | decide | (simp only [rmv]; omega)) (by first | decide | (simp only [rmv]; omega)) (by first | decide | (simp only [rmv]; omega)) ?_
              simp [oEntitle, fitE, fillE, ms_o, ms_s, h1, h2, h3, h4, h5, h7]

set_option maxHeartbeats 4000000 in
set_option maxRecDepth 100000 in
theorem c_X2_setRights {l : Launch} {w : Wo} {M : Mem} {G : Lng} {x : Int32} {a9 b9 c9 : Bool} (hnt : l.stackTraces = false) (hw : WK w) (hD : DI M) : CT l yX2_setRights [Cond.code yX2_setRights cX2_setRights 7 (some .int)] 7 4 24 w [.ref (w.1 (2, 0)), .int x, .int (bi a9), .int (bi b9), .int (bi c9)] M G (oSetRights M G x a9 b9 c9) := by
  refine CT_of hnt hw.1 mw_X2_setRights (by simp [Value.category]) (Nat.le_of_ble_eq_true rfl) (fun p e s m args below meth c X => ?_)
  refine r_aload_n X dX2_setRights_0 rfl rfl ?_
  refine r_iload_n X dX2_setRights_1 rfl rfl ?_
  refine r_callV X (c_X2_entitlementAt hnt hw (by first | assumption | omega | (repeat (first | assumption | refine DI_chg ?_ | refine DI_clr ?_ | refine DI_scr rfl ?_)))) mw_X2_entitlementAt kc2 mi_X2_entitlementAt (hw.2 _ _ (by first | decide | (simp [cnt] <;> omega))) ev2 ml_X2_114 rfl rfl (Nat.le_of_ble_eq_true rfl) (by first | decide | (simp only [rmv]; omega)) (by first | decide | (simp only [rmv]; omega)) (by first | decide | (simp only [rmv]; omega)) (by first | decide | (simp only [rmv]; omega)) dX2_setRights_2 (koi (fun h1 => ko1 ?_) (fun h1 => kox ?_))
  · have hy1 := (eth_Rg hD h1).1
    have hy2 := (eth_Rg hD h1).2
    refine r_astore X dX2_setRights_5 (by decide) rfl ?_
    refine r_aload X dX2_setRights_7 rfl ?_
    refine r_callVN X (c_X0_countRights hnt hw (by first | assumption | omega | (repeat (first | assumption | refine DI_chg ?_ | refine DI_clr ?_ | refine DI_scr rfl ?_)))) mw_X0_countRights kc0 mi_X0_countRights (hw.2 _ _ (by first | decide | (simp [cnt] <;> omega))) ev0 ml_X2_118 rfl rfl (Nat.le_of_ble_eq_true rfl) (by first | decide | (simp only [rmv]; omega)) (by first | decide | (simp only [rmv]; omega)) (by first | decide | (simp only [rmv]; omega)) (by first | decide | (simp only [rmv]; omega)) dX2_setRights_9 (ko1 ?_)
    refine r_istore X dX2_setRights_12 (by decide) rfl ?_
    refine r_aload X dX2_setRights_14 rfl ?_
    refine r_iload_n X dX2_setRights_16 rfl rfl ?_
    refine r_putN X kc0 (j := 8) (hw.2 _ _ (by first | decide | (simp [cnt] <;> omega))) ev0 (by decide) (Nat.le_of_ble_eq_true rfl) fl_X2_122 rfl (by first | exact nzb _ | rfl) (by first | exact fzb _ | rfl) dX2_setRights_17 es_0_8 ?_
    refine r_aload X dX2_setRights_20 rfl ?_
    refine r_iload_n X dX2_setRights_22 rfl rfl ?_
    refine r_putN X kc0 (j := 9) (hw.2 _ _ (by first | decide | (simp [cnt] <;> omega))) ev0 (by decide) (Nat.le_of_ble_eq_true rfl) fl_X2_125 rfl (by first | exact nzb _ | rfl) (by first | exact fzb _ | rfl) dX2_setRights_23 es_0_9 ?_
    refine r_aload X dX2_setRights_26 rfl ?_
    refine r_iload X dX2_setRights_28 rfl ?_
    refine r_putN X kc0 (j := 10) (hw.2 _ _ (by first | decide | (simp [cnt] <;> omega))) ev0 (by decide) (Nat.le_of_ble_eq_true rfl) fl_X2_128 rfl (by first | exact nzb _ | rfl) (by first | exact fzb _ | rfl) dX2_setRights_30 es_0_10 ?_
    refine r_iload X dX2_setRights_33 rfl ?_
    refine r_iret X dX2_setRights_35 (by first | decide | (simp only [rmv]; omega)) (by first | decide | (simp only [rmv]; omega)) ?_
    first | with_reducible rfl | contradiction | assumption | (simp [oSetRights, cr, ms_o, ms_s, h1])
  · refine r_out X (by first | decide | (simp only [rmv]; omega)) (by first | decide | (simp only [rmv]; omega)) ?_
    simp [oSetRights, cr, ms_o, ms_s, h1]

set_option maxHeartbeats 4000000 in
set_option maxRecDepth 100000 in
theorem c_X2_setMinimum {l : Launch} {w : Wo} {M : Mem} {G : Lng} {x d9 : Int32} (hnt : l.stackTraces = false) (hw : WK w) (hD : DI M) : CT l yX2_setMinimum [Cond.code yX2_setMinimum cX2_setMinimum 5 (some .int)] 7 4 24 w [.ref (w.1 (2, 0)), .int x, .int d9] M G (oSetMinimum M G x d9) := by
  refine CT_of hnt hw.1 mw_X2_setMinimum (by simp [Value.category]) (Nat.le_of_ble_eq_true rfl) (fun p e s m args below meth c X => ?_)
  refine r_aload_n X dX2_setMinimum_0 rfl rfl ?_
  refine r_iload_n X dX2_setMinimum_1 rfl rfl ?_
  refine r_callV X (c_X2_entitlementAt hnt hw (by first | assumption | omega | (repeat (first | assumption | refine DI_chg ?_ | refine DI_clr ?_ | refine DI_scr rfl ?_)))) mw_X2_entitlementAt kc2 mi_X2_entitlementAt (hw.2 _ _ (by first | decide | (simp [cnt] <;> omega))) ev2 ml_X2_114 rfl rfl (Nat.le_of_ble_eq_true rfl) (by first | decide | (simp only [rmv]; omega)) (by first | decide | (simp only [rmv]; omega)) (by first | decide | (simp only [rmv]; omega)) (by first | decide | (simp only [rmv]; omega)) dX2_setMinimum_2 (koi (fun h1 => ko1 ?_) (fun h1 => kox ?_))
  · have hy1 := (eth_Rg hD h1).1
    have hy2 := (eth_Rg hD h1).2
    refine r_astore_n X dX2_setMinimum_5 rfl (by decide) rfl ?_
    refine r_iload_n X dX2_setMinimum_6 rfl rfl ?_
    refine r_iconst X dX2_setMinimum_7 (v := nI 1) (by decide) ?_
    refine r_bipush X dX2_setMinimum_8 (v := nI 16) (by decide) ?_
    refine r_callS X (c_X2_isBetween hnt hw ) mw_X2_isBetween mi_X2_isBetween ml_X2_33 rfl rfl (Nat.le_of_ble_eq_true rfl) (by first | decide | (simp only [rmv]; omega)) (by first | decide | (simp only [rmv]; omega)) (by first | decide | (simp only [rmv]; omega)) (by first | decide | (simp only [rmv]; omega)) dX2_setMinimum_10 (ko1 ?_)
    first | with_reducible refine r_ifb_ne X dX2_setMinimum_13 (tgt := 26) (by decide) (fun h2 => ?_) (fun h2 => ?_) | refine r_if_ne X dX2_setMinimum_13 (tgt := 26) (by decide) (fun h2 => ?_) (fun h2 => ?_)
    · refine r_aload_n X dX2_setMinimum_26 rfl rfl ?_
      refine r_getN X kc0 (j := 3) (hw.2 _ _ (by first | decide | (simp [cnt] <;> omega))) ev0 (by decide) rfl fl_X2_133 dX2_setMinimum_27 ?_
      refine r_bipush X dX2_setMinimum_30 (v := nI 99) (by decide) ?_
      first | with_reducible refine r_icmpn_eq X dX2_setMinimum_32 (tgt := 45) (by decide) (by omega) (by omega) (fun h3 => ?_) (fun h3 => ?_) | refine r_icmp_eq X dX2_setMinimum_32 (tgt := 45) (by decide) (fun h3 => ?_) (fun h3 => ?_)
      · refine r_aload_n X dX2_setMinimum_45 rfl rfl ?_
        refine r_getN X kc0 (j := 6) (hw.2 _ _ (by first | decide | (simp [cnt] <;> omega))) ev0 (by decide) rfl fl_X2_142 dX2_setMinimum_46 ?_
        refine r_istore X dX2_setMinimum_49 (by decide) rfl ?_
        refine r_aload_n X dX2_setMinimum_51 rfl rfl ?_
        refine r_iload_n X dX2_setMinimum_52 rfl rfl ?_
        refine r_putN X kc0 (j := 6) (hw.2 _ _ (by first | decide | (simp [cnt] <;> omega))) ev0 (by decide) (Nat.le_of_ble_eq_true rfl) fl_X2_142 rfl rfl rfl dX2_setMinimum_53 es_0_6 ?_
        refine r_iload X dX2_setMinimum_56 rfl ?_
        refine r_iret X dX2_setMinimum_58 (by first | decide | (simp only [rmv]; omega)) (by first | decide | (simp only [rmv]; omega)) ?_
        first | with_reducible rfl | contradiction | assumption | (simp [oSetMinimum, ms_o, ms_s, h1, h2, h3])
      · refine r_throwS X (cls := xUOE) (by decide +kernel) kl_137 ki_xUOE (sw_139) at_xUOE dX2_setMinimum_35 dX2_setMinimum_38 dX2_setMinimum_39 dX2_setMinimum_41 dX2_setMinimum_44 (by first | decide | (simp only [rmv]; omega)) (by first | decide | (simp [Value.category, rmv] <;> omega)) (by first | decide | (simp only [rmv]; omega)) (by first | decide | (simp only [rmv]; omega)) (by first | decide | (simp only [rmv]; omega)) (by first | decide | (simp only [rmv]; omega)) ?_
        simp [oSetMinimum, ms_o, ms_s, h1, h2, h3]
    · refine r_throwS X (cls := xIAE) (by decide +kernel) kl_48 ki_xIAE (sw_131) at_xIAE dX2_setMinimum_16 dX2_setMinimum_19 dX2_setMinimum_20 dX2_setMinimum_22 dX2_setMinimum_25 (by first | decide | (simp only [rmv]; omega)) (by first | decide | (simp [Value.category, rmv] <;> omega)) (by first | decide | (simp only [rmv]; omega)) (by first | decide | (simp only [rmv]; omega)) (by first | decide | (simp only [rmv]; omega)) (by first | decide | (simp only [rmv]; omega)) ?_
      simp [oSetMinimum, ms_o, ms_s, h1, h2]
  · refine r_out X (by first | decide | (simp only [rmv]; omega)) (by first | decide | (simp only [rmv]; omega)) ?_
    simp [oSetMinimum, ms_o, ms_s, h1]

set_option maxHeartbeats 4000000 in
set_option maxRecDepth 100000 in
theorem c_X2_setPrice {l : Launch} {w : Wo} {M : Mem} {G : Lng} {x d9 : Int32} (hnt : l.stackTraces = false) (hw : WK w) (hD : DI M) : CT l yX2_setPrice [Cond.code yX2_setPrice cX2_setPrice 5 (some .int)] 7 4 24 w [.ref (w.1 (2, 0)), .int x, .int d9] M G (oSetPrice M G x d9) := by
  refine CT_of hnt hw.1 mw_X2_setPrice (by simp [Value.category]) (Nat.le_of_ble_eq_true rfl) (fun p e s m args below meth c X => ?_)
  refine r_aload_n X dX2_setPrice_0 rfl rfl ?_
  refine r_iload_n X dX2_setPrice_1 rfl rfl ?_
  refine r_callV X (c_X2_entitlementAt hnt hw (by first | assumption | omega | (repeat (first | assumption | refine DI_chg ?_ | refine DI_clr ?_ | refine DI_scr rfl ?_)))) mw_X2_entitlementAt kc2 mi_X2_entitlementAt (hw.2 _ _ (by first | decide | (simp [cnt] <;> omega))) ev2 ml_X2_114 rfl rfl (Nat.le_of_ble_eq_true rfl) (by first | decide | (simp only [rmv]; omega)) (by first | decide | (simp only [rmv]; omega)) (by first | decide | (simp only [rmv]; omega)) (by first | decide | (simp only [rmv]; omega)) dX2_setPrice_2 (koi (fun h1 => ko1 ?_) (fun h1 => kox ?_))
  · have hy1 := (eth_Rg hD h1).1
    have hy2 := (eth_Rg hD h1).2
    refine r_astore_n X dX2_setPrice_5 rfl (by decide) rfl ?_
    refine r_iload_n X dX2_setPrice_6 rfl rfl ?_
    refine r_iconst X dX2_setPrice_7 (v := nI 1) (by decide) ?_
    refine r_bipush X dX2_setPrice_8 (v := nI 99) (by decide) ?_
    refine r_callS X (c_X2_isBetween hnt hw ) mw_X2_isBetween mi_X2_isBetween ml_X2_33 rfl rfl (Nat.le_of_ble_eq_true rfl) (by first | decide | (simp only [rmv]; omega)) (by first | decide | (simp only [rmv]; omega)) (by first | decide | (simp only [rmv]; omega)) (by first | decide | (simp only [rmv]; omega)) dX2_setPrice_10 (ko1 ?_)
    first | with_reducible refine r_ifb_ne X dX2_setPrice_13 (tgt := 26) (by decide) (fun h2 => ?_) (fun h2 => ?_) | refine r_if_ne X dX2_setPrice_13 (tgt := 26) (by decide) (fun h2 => ?_) (fun h2 => ?_)
    · refine r_aload_n X dX2_setPrice_26 rfl rfl ?_
      refine r_getN X kc0 (j := 7) (hw.2 _ _ (by first | decide | (simp [cnt] <;> omega))) ev0 (by decide) rfl fl_X2_147 dX2_setPrice_27 ?_
      refine r_istore X dX2_setPrice_30 (by decide) rfl ?_
      refine r_aload_n X dX2_setPrice_32 rfl rfl ?_
      refine r_iload_n X dX2_setPrice_33 rfl rfl ?_
      refine r_putN X kc0 (j := 7) (hw.2 _ _ (by first | decide | (simp [cnt] <;> omega))) ev0 (by decide) (Nat.le_of_ble_eq_true rfl) fl_X2_147 rfl rfl rfl dX2_setPrice_34 es_0_7 ?_
      refine r_iload X dX2_setPrice_37 rfl ?_
      refine r_iret X dX2_setPrice_39 (by first | decide | (simp only [rmv]; omega)) (by first | decide | (simp only [rmv]; omega)) ?_
      first | with_reducible rfl | contradiction | assumption | (simp [oSetPrice, ms_o, ms_s, h1, h2])
    · refine r_throwS X (cls := xIAE) (by decide +kernel) kl_48 ki_xIAE (sw_145) at_xIAE dX2_setPrice_16 dX2_setPrice_19 dX2_setPrice_20 dX2_setPrice_22 dX2_setPrice_25 (by first | decide | (simp only [rmv]; omega)) (by first | decide | (simp [Value.category, rmv] <;> omega)) (by first | decide | (simp only [rmv]; omega)) (by first | decide | (simp only [rmv]; omega)) (by first | decide | (simp only [rmv]; omega)) (by first | decide | (simp only [rmv]; omega)) ?_
      simp [oSetPrice, ms_o, ms_s, h1, h2]
  · refine r_out X (by first | decide | (simp only [rmv]; omega)) (by first | decide | (simp only [rmv]; omega)) ?_
    simp [oSetPrice, ms_o, ms_s, h1]

set_option maxHeartbeats 4000000 in
set_option maxRecDepth 100000 in
theorem c_X2_addUnits {l : Launch} {w : Wo} {M : Mem} {G : Lng} {x d9 : Int32} (hnt : l.stackTraces = false) (hw : WK w) (hD : DI M) : CT l yX2_addUnits [Cond.code yX2_addUnits cX2_addUnits 4 (some .int)] 7 4 24 w [.ref (w.1 (2, 0)), .int x, .int d9] M G (oAddUnits M G x d9) := by
  refine CT_of hnt hw.1 mw_X2_addUnits (by simp [Value.category]) (Nat.le_of_ble_eq_true rfl) (fun p e s m args below meth c X => ?_)
  refine r_aload_n X dX2_addUnits_0 rfl rfl ?_
  refine r_iload_n X dX2_addUnits_1 rfl rfl ?_
  refine r_callV X (c_X2_entitlementAt hnt hw (by first | assumption | omega | (repeat (first | assumption | refine DI_chg ?_ | refine DI_clr ?_ | refine DI_scr rfl ?_)))) mw_X2_entitlementAt kc2 mi_X2_entitlementAt (hw.2 _ _ (by first | decide | (simp [cnt] <;> omega))) ev2 ml_X2_114 rfl rfl (Nat.le_of_ble_eq_true rfl) (by first | decide | (simp only [rmv]; omega)) (by first | decide | (simp only [rmv]; omega)) (by first | decide | (simp only [rmv]; omega)) (by first | decide | (simp only [rmv]; omega)) dX2_addUnits_2 (koi (fun h1 => ko1 ?_) (fun h1 => kox ?_))
  · have hy1 := (eth_Rg hD h1).1
    have hy2 := (eth_Rg hD h1).2
    refine r_astore_n X dX2_addUnits_5 rfl (by decide) rfl ?_
    refine r_iload_n X dX2_addUnits_6 rfl rfl ?_
    refine r_iconst X dX2_addUnits_7 (v := nI 1) (by decide) ?_
    refine r_bipush X dX2_addUnits_8 (v := nI 99) (by decide) ?_
    refine r_callS X (c_X2_isBetween hnt hw ) mw_X2_isBetween mi_X2_isBetween ml_X2_33 rfl rfl (Nat.le_of_ble_eq_true rfl) (by first | decide | (simp only [rmv]; omega)) (by first | decide | (simp only [rmv]; omega)) (by first | decide | (simp only [rmv]; omega)) (by first | decide | (simp only [rmv]; omega)) dX2_addUnits_10 (ko1 ?_)
    first | with_reducible refine r_ifb_ne X dX2_addUnits_13 (tgt := 26) (by decide) (fun h2 => ?_) (fun h2 => ?_) | refine r_if_ne X dX2_addUnits_13 (tgt := 26) (by decide) (fun h2 => ?_) (fun h2 => ?_)
    · refine r_aload_n X dX2_addUnits_26 rfl rfl ?_
      refine r_getN X kc0 (j := 4) (hw.2 _ _ (by first | decide | (simp [cnt] <;> omega))) ev0 (by decide) rfl fl_X2_152 dX2_addUnits_27 ?_
      refine r_iload_n X dX2_addUnits_30 rfl rfl ?_
      refine r_iadd X dX2_addUnits_31 ?_
      refine r_sipush X dX2_addUnits_32 (v := nI 999) (by decide) ?_
      first | with_reducible refine r_icmpn_le X dX2_addUnits_35 (tgt := 48) (by decide) (by omega) (by omega) (fun h3 => ?_) (fun h3 => ?_) | refine r_icmp_le X dX2_addUnits_35 (tgt := 48) (by decide) (fun h3 => ?_) (fun h3 => ?_)
      · refine r_aload_n X dX2_addUnits_48 rfl rfl ?_
        refine r_dup X dX2_addUnits_49 rfl ?_
        refine r_getN X kc0 (j := 4) (hw.2 _ _ (by first | decide | (simp [cnt] <;> omega))) ev0 (by decide) rfl fl_X2_152 dX2_addUnits_50 ?_
        refine r_iload_n X dX2_addUnits_53 rfl rfl ?_
        refine r_iadd X dX2_addUnits_54 ?_
        refine r_putN X kc0 (j := 4) (hw.2 _ _ (by first | decide | (simp [cnt] <;> omega))) ev0 (by decide) (Nat.le_of_ble_eq_true rfl) fl_X2_152 rfl rfl rfl dX2_addUnits_55 es_0_4 ?_
        refine r_aload_n X dX2_addUnits_58 rfl rfl ?_
        refine r_getN X kc0 (j := 4) (hw.2 _ _ (by first | decide | (simp [cnt] <;> omega))) ev0 (by decide) rfl fl_X2_152 dX2_addUnits_59 ?_
        refine r_iret X dX2_addUnits_62 (by first | decide | (simp only [rmv]; omega)) (by first | decide | (simp only [rmv]; omega)) ?_
        first | with_reducible rfl | contradiction | assumption | (simp [oAddUnits, ms_o, ms_s, h1, h2, h3])
      · refine r_throwS X (cls := xISE) (by decide +kernel) kl_62 ki_xISE (sw_155) at_xISE dX2_addUnits_38 dX2_addUnits_41 dX2_addUnits_42 dX2_addUnits_44 dX2_addUnits_47 (by first | decide | (simp only [rmv]; omega)) (by first | decide | (simp [Value.category, rmv] <;> omega)) (by first | decide | (simp only [rmv]; omega)) (by first | decide | (simp only [rmv]; omega)) (by first | decide | (simp only [rmv]; omega)) (by first | decide | (simp only [rmv]; omega)) ?_
        simp [oAddUnits, ms_o, ms_s, h1, h2, h3]
    · refine r_throwS X (cls := xIAE) (by decide +kernel) kl_48 ki_xIAE (sw_150) at_xIAE dX2_addUnits_16 dX2_addUnits_19 dX2_addUnits_20 dX2_addUnits_22 dX2_addUnits_25 (by first | decide | (simp only [rmv]; omega)) (by first | decide | (simp [Value.category, rmv] <;> omega)) (by first | decide | (simp only [rmv]; omega)) (by first | decide | (simp only [rmv]; omega)) (by first | decide | (simp only [rmv]; omega)) (by first | decide | (simp only [rmv]; omega)) ?_
      simp [oAddUnits, ms_o, ms_s, h1, h2]
  · refine r_out X (by first | decide | (simp only [rmv]; omega)) (by first | decide | (simp only [rmv]; omega)) ?_
    simp [oAddUnits, ms_o, ms_s, h1]

set_option maxHeartbeats 4000000 in
set_option maxRecDepth 100000 in
theorem c_X2_units {l : Launch} {w : Wo} {M : Mem} {G : Lng} {x : Int32} (hnt : l.stackTraces = false) (hw : WK w) (hD : DI M) : CT l yX2_units [Cond.code yX2_units cX2_units 2 (some .int)] 7 4 24 w [.ref (w.1 (2, 0)), .int x] M G (oUnits M G x) := by
  refine CT_of hnt hw.1 mw_X2_units (by simp [Value.category]) (Nat.le_of_ble_eq_true rfl) (fun p e s m args below meth c X => ?_)
  refine r_aload_n X dX2_units_0 rfl rfl ?_
  refine r_iload_n X dX2_units_1 rfl rfl ?_
  refine r_callV X (c_X2_entitlementAt hnt hw (by first | assumption | omega | (repeat (first | assumption | refine DI_chg ?_ | refine DI_clr ?_ | refine DI_scr rfl ?_)))) mw_X2_entitlementAt kc2 mi_X2_entitlementAt (hw.2 _ _ (by first | decide | (simp [cnt] <;> omega))) ev2 ml_X2_114 rfl rfl (Nat.le_of_ble_eq_true rfl) (by first | decide | (simp only [rmv]; omega)) (by first | decide | (simp only [rmv]; omega)) (by first | decide | (simp only [rmv]; omega)) (by first | decide | (simp only [rmv]; omega)) dX2_units_2 (koi (fun h1 => ko1 ?_) (fun h1 => kox ?_))
  · have hy1 := (eth_Rg hD h1).1
    have hy2 := (eth_Rg hD h1).2
    refine r_getN X kc0 (j := 4) (hw.2 _ _ (by first | decide | (simp [cnt] <;> omega))) ev0 (by decide) rfl fl_X2_152 dX2_units_5 ?_
    refine r_iret X dX2_units_8 (by first | decide | (simp only [rmv]; omega)) (by first | decide | (simp only [rmv]; omega)) ?_
    first | with_reducible rfl | contradiction | assumption | (simp [oUnits, ms_o, ms_s, h1])
  · refine r_out X (by first | decide | (simp only [rmv]; omega)) (by first | decide | (simp only [rmv]; omega)) ?_
    simp [oUnits, ms_o, ms_s, h1]

set_option maxHeartbeats 4000000 in
set_option maxRecDepth 100000 in
theorem c_X2_why {l : Launch} {w : Wo} {M : Mem} {G : Lng} {x y : Int32} (hnt : l.stackTraces = false) (hw : WK w) (hD : DI M) : CT l yX2_why [Cond.code yX2_why cX2_why 4 (some .char)] 7 4 24 w [.ref (w.1 (2, 0)), .int x, .int y] M G (oWhy M G x y) := by
  refine CT_of hnt hw.1 mw_X2_why (by simp [Value.category]) (Nat.le_of_ble_eq_true rfl) (fun p e s m args below meth c X => ?_)
  refine r_aload_n X dX2_why_0 rfl rfl ?_
  refine r_iload_n X dX2_why_1 rfl rfl ?_
  refine r_callV X (c_X2_installAt hnt hw ) mw_X2_installAt kc2 mi_X2_installAt (hw.2 _ _ (by first | decide | (simp [cnt] <;> omega))) ev2 ml_X2_71 rfl rfl (Nat.le_of_ble_eq_true rfl) (by first | decide | (simp only [rmv]; omega)) (by first | decide | (simp only [rmv]; omega)) (by first | decide | (simp only [rmv]; omega)) (by first | decide | (simp only [rmv]; omega)) dX2_why_2 (koi (fun h1 => ko1 ?_) (fun h1 => kox ?_))
  · have hx1 := (thr_Rg h1).1
    have hx2 := (thr_Rg h1).2
    refine r_astore_n X dX2_why_5 rfl (by decide) rfl ?_
    refine r_aload_n X dX2_why_6 rfl rfl ?_
    refine r_iload_n X dX2_why_7 rfl rfl ?_
    refine r_callV X (c_X2_entitlementAt hnt hw (by first | assumption | omega | (repeat (first | assumption | refine DI_chg ?_ | refine DI_clr ?_ | refine DI_scr rfl ?_)))) mw_X2_entitlementAt kc2 mi_X2_entitlementAt (hw.2 _ _ (by first | decide | (simp [cnt] <;> omega))) ev2 ml_X2_114 rfl rfl (Nat.le_of_ble_eq_true rfl) (by first | decide | (simp only [rmv]; omega)) (by first | decide | (simp only [rmv]; omega)) (by first | decide | (simp only [rmv]; omega)) (by first | decide | (simp only [rmv]; omega)) dX2_why_8 (koi (fun h2 => ko1 ?_) (fun h2 => kox ?_))
    · have hy1 := (eth_Rg hD h2).1
      have hy2 := (eth_Rg hD h2).2
      refine r_aload_n X dX2_why_11 rfl rfl ?_
      refine r_callVN X (c_X0_misfit hnt hw (by first | assumption | omega | (repeat (first | assumption | refine DI_chg ?_ | refine DI_clr ?_ | refine DI_scr rfl ?_))) (by first | assumption | omega | (repeat (first | assumption | refine DI_chg ?_ | refine DI_clr ?_ | refine DI_scr rfl ?_)))) mw_X0_misfit kc0 mi_X0_misfit (hw.2 _ _ (by first | decide | (simp [cnt] <;> omega))) ev0 ml_X2_157 rfl rfl (Nat.le_of_ble_eq_true rfl) (by first | decide | (simp only [rmv]; omega)) (by first | decide | (simp only [rmv]; omega)) (by first | decide | (simp only [rmv]; omega)) (by first | decide | (simp only [rmv]; omega)) dX2_why_12 (ko1 ?_)
      refine r_cret X dX2_why_15 (by first | exact mis_c _ _ _ | rfl | assumption) (by first | decide | (simp only [rmv]; omega)) (by first | decide | (simp only [rmv]; omega)) ?_
      first | with_reducible rfl | contradiction | (simp [oWhy, ms_o, ms_s, h1, h2])
    · refine r_out X (by first | decide | (simp only [rmv]; omega)) (by first | decide | (simp only [rmv]; omega)) ?_
      simp [oWhy, ms_o, ms_s, h1, h2]
  · refine r_out X (by first | decide | (simp only [rmv]; omega)) (by first | decide | (simp only [rmv]; omega)) ?_
    simp [oWhy, ms_o, ms_s, h1]

end M3
end
section
theorem zz_nothing : True := trivial
theorem i_vc : Claimed_1_1 ∧ Claimed_1_2 := sorry
end
