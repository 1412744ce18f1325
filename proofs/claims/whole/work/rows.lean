section
/-! ===== BEGIN words of one list among another's, by their places ===== -/
theorem goodIn_r {big : List Cond} (ws : List Cond) (ps : List Nat) (hp : ws = ps.filterMap (fun i => big[i]?)) (h : ws.all goodWord = true) : GoodIn big ws := by
  intro w hw
  have h1 := List.all_eq_true.mp h w hw
  rw [hp] at hw
  obtain ⟨i, -, hi⟩ := List.mem_filterMap.mp hw
  have hm : w ∈ big := by first | exact List.mem_of_getElem? hi | exact List.getElem?_mem hi
  exact ⟨hm, good_of_word h1⟩
theorem goodIn_app {big a b : List Cond} (ha : GoodIn big a) (hb : GoodIn big b) : GoodIn big (a ++ b) := fun w h => (List.mem_append.mp h).elim (ha w) (hb w)
theorem goodIn_ca {big a b : List Cond} {c : Cond} (ha : GoodIn big (c :: a)) (hb : GoodIn big b) : GoodIn big (c :: (a ++ b)) := fun w h => (List.mem_cons.mp h).elim (fun e => ha w (List.mem_cons.mpr (Or.inl e))) (fun h => (List.mem_append.mp h).elim (fun h => ha w (List.mem_cons.mpr (Or.inr h))) (hb w))
theorem goodIn_sub {big ws : List Cond} (hm : ∀ w ∈ ws, w ∈ big) (h : ws.all goodWord = true) : GoodIn big ws := fun w hw => ⟨hm w hw, good_of_word (List.all_eq_true.mp h w hw)⟩
/-! ===== END ===== -/
-- ===== PART A: goes FIRST, ahead of the names: the tables' words, and 'selects' of the private methods out of them =====
/-- a private method of a class that the tables say can be made, by its rows of tables_1 -/
def lw_okq (q : MethodName × Nat) : Prop := (q.1.cls ≠ "java/lang/invoke/MethodHandle" ∧ q.1.cls ≠ "java/lang/invoke/VarHandle") ∧ Cond.instantiable q.1.cls q.2 ∈ tables_1 ∧ Cond.privateMethod q.1 ∈ tables_1 ∧ Cond.instanceMethod q.1 ∈ tables_1
theorem lw_p0 : lw_okq (⟨"EmberTale", "layText", "()Z"⟩, 12) := ⟨⟨by decide +kernel, by decide +kernel⟩, List.mem_of_getElem? (i := 19) (by decide +kernel), List.mem_of_getElem? (i := 280) (by decide +kernel), List.mem_of_getElem? (i := 281) (by decide +kernel)⟩
theorem lw_p1 : lw_okq (⟨"EmberTale$Reader", "readItem", "()Z"⟩, 5) := ⟨⟨by decide +kernel, by decide +kernel⟩, List.mem_of_getElem? (i := 106) (by decide +kernel), List.mem_of_getElem? (i := 305) (by decide +kernel), List.mem_of_getElem? (i := 306) (by decide +kernel)⟩
theorem lw_p2 : lw_okq (⟨"EmberTale$Reader", "take", "()I"⟩, 5) := ⟨⟨by decide +kernel, by decide +kernel⟩, List.mem_of_getElem? (i := 106) (by decide +kernel), List.mem_of_getElem? (i := 309) (by decide +kernel), List.mem_of_getElem? (i := 310) (by decide +kernel)⟩
theorem lw_p3 : lw_okq (⟨"EmberTale$Reader", "readFigures", "(I)Z"⟩, 5) := ⟨⟨by decide +kernel, by decide +kernel⟩, List.mem_of_getElem? (i := 106) (by decide +kernel), List.mem_of_getElem? (i := 317) (by decide +kernel), List.mem_of_getElem? (i := 318) (by decide +kernel)⟩
theorem lw_p4 : lw_okq (⟨"EmberTale$Reader", "readNumbers", "(I)Z"⟩, 5) := ⟨⟨by decide +kernel, by decide +kernel⟩, List.mem_of_getElem? (i := 106) (by decide +kernel), List.mem_of_getElem? (i := 336) (by decide +kernel), List.mem_of_getElem? (i := 337) (by decide +kernel)⟩
theorem lw_p5 : lw_okq (⟨"EmberTale$Reader", "readNumber", "()I"⟩, 5) := ⟨⟨by decide +kernel, by decide +kernel⟩, List.mem_of_getElem? (i := 106) (by decide +kernel), List.mem_of_getElem? (i := 340) (by decide +kernel), List.mem_of_getElem? (i := 341) (by decide +kernel)⟩
theorem lw_p6 : lw_okq (⟨"EmberTale$Shelf", "slotOf", "(I)LEmberTale$Camp;"⟩, 3) := ⟨⟨by decide +kernel, by decide +kernel⟩, List.mem_of_getElem? (i := 86) (by decide +kernel), List.mem_of_getElem? (i := 528) (by decide +kernel), List.mem_of_getElem? (i := 529) (by decide +kernel)⟩
theorem lw_p7 : lw_okq (⟨"EmberTale$Camp", "change", "(III)V"⟩, 3) := ⟨⟨by decide +kernel, by decide +kernel⟩, List.mem_of_getElem? (i := 68) (by decide +kernel), List.mem_of_getElem? (i := 538) (by decide +kernel), List.mem_of_getElem? (i := 539) (by decide +kernel)⟩
theorem lw_p8 : lw_okq (⟨"EmberTale$Camp", "set", "(III)V"⟩, 3) := ⟨⟨by decide +kernel, by decide +kernel⟩, List.mem_of_getElem? (i := 68) (by decide +kernel), List.mem_of_getElem? (i := 542) (by decide +kernel), List.mem_of_getElem? (i := 543) (by decide +kernel)⟩
theorem lw_p9 : lw_okq (⟨"EmberTale$Camp", "setHot", "(II)V"⟩, 3) := ⟨⟨by decide +kernel, by decide +kernel⟩, List.mem_of_getElem? (i := 68) (by decide +kernel), List.mem_of_getElem? (i := 560) (by decide +kernel), List.mem_of_getElem? (i := 561) (by decide +kernel)⟩
theorem lw_p10 : lw_okq (⟨"EmberTale", "areTwo", "(II)Z"⟩, 12) := ⟨⟨by decide +kernel, by decide +kernel⟩, List.mem_of_getElem? (i := 19) (by decide +kernel), List.mem_of_getElem? (i := 585) (by decide +kernel), List.mem_of_getElem? (i := 586) (by decide +kernel)⟩
theorem lw_p11 : lw_okq (⟨"EmberTale$Keeper", "isKept", "(IIII)Z"⟩, 5) := ⟨⟨by decide +kernel, by decide +kernel⟩, List.mem_of_getElem? (i := 134) (by decide +kernel), List.mem_of_getElem? (i := 656) (by decide +kernel), List.mem_of_getElem? (i := 657) (by decide +kernel)⟩
theorem lw_p12 : lw_okq (⟨"EmberTale$Keeper", "isKeptBy", "(IIII)Z"⟩, 5) := ⟨⟨by decide +kernel, by decide +kernel⟩, List.mem_of_getElem? (i := 134) (by decide +kernel), List.mem_of_getElem? (i := 660) (by decide +kernel), List.mem_of_getElem? (i := 661) (by decide +kernel)⟩
theorem lw_p13 : lw_okq (⟨"EmberTale$Tale", "oneStepOn", "(I)I"⟩, 5) := ⟨⟨by decide +kernel, by decide +kernel⟩, List.mem_of_getElem? (i := 44) (by decide +kernel), List.mem_of_getElem? (i := 686) (by decide +kernel), List.mem_of_getElem? (i := 687) (by decide +kernel)⟩
theorem lw_p14 : lw_okq (⟨"EmberTale$Teller", "isTold", "(III)Z"⟩, 5) := ⟨⟨by decide +kernel, by decide +kernel⟩, List.mem_of_getElem? (i := 158) (by decide +kernel), List.mem_of_getElem? (i := 698) (by decide +kernel), List.mem_of_getElem? (i := 699) (by decide +kernel)⟩
theorem lw_p15 : lw_okq (⟨"EmberTale$Teller", "isToldBy", "(IIII)Z"⟩, 5) := ⟨⟨by decide +kernel, by decide +kernel⟩, List.mem_of_getElem? (i := 158) (by decide +kernel), List.mem_of_getElem? (i := 702) (by decide +kernel), List.mem_of_getElem? (i := 703) (by decide +kernel)⟩
def lw_privs_1 : List (MethodName × Nat) := [(⟨"EmberTale", "layText", "()Z"⟩, 12), (⟨"EmberTale$Reader", "readItem", "()Z"⟩, 5), (⟨"EmberTale$Reader", "take", "()I"⟩, 5), (⟨"EmberTale$Reader", "readFigures", "(I)Z"⟩, 5), (⟨"EmberTale$Reader", "readNumbers", "(I)Z"⟩, 5), (⟨"EmberTale$Reader", "readNumber", "()I"⟩, 5), (⟨"EmberTale$Shelf", "slotOf", "(I)LEmberTale$Camp;"⟩, 3), (⟨"EmberTale$Camp", "change", "(III)V"⟩, 3), (⟨"EmberTale$Camp", "set", "(III)V"⟩, 3), (⟨"EmberTale$Camp", "setHot", "(II)V"⟩, 3), (⟨"EmberTale", "areTwo", "(II)Z"⟩, 12), (⟨"EmberTale$Keeper", "isKept", "(IIII)Z"⟩, 5), (⟨"EmberTale$Keeper", "isKeptBy", "(IIII)Z"⟩, 5), (⟨"EmberTale$Tale", "oneStepOn", "(I)I"⟩, 5), (⟨"EmberTale$Teller", "isTold", "(III)Z"⟩, 5), (⟨"EmberTale$Teller", "isToldBy", "(IIII)Z"⟩, 5)]
theorem lw_r1 : ∀ q ∈ lw_privs_1, lw_okq q := List.forall_mem_cons.mpr ⟨lw_p0, List.forall_mem_cons.mpr ⟨lw_p1, List.forall_mem_cons.mpr ⟨lw_p2, List.forall_mem_cons.mpr ⟨lw_p3, List.forall_mem_cons.mpr ⟨lw_p4, List.forall_mem_cons.mpr ⟨lw_p5, List.forall_mem_cons.mpr ⟨lw_p6, List.forall_mem_cons.mpr ⟨lw_p7, List.forall_mem_cons.mpr ⟨lw_p8, List.forall_mem_cons.mpr ⟨lw_p9, List.forall_mem_cons.mpr ⟨lw_p10, List.forall_mem_cons.mpr ⟨lw_p11, List.forall_mem_cons.mpr ⟨lw_p12, List.forall_mem_cons.mpr ⟨lw_p13, List.forall_mem_cons.mpr ⟨lw_p14, List.forall_mem_cons.mpr ⟨lw_p15, fun _ h => absurd h List.not_mem_nil⟩⟩⟩⟩⟩⟩⟩⟩⟩⟩⟩⟩⟩⟩⟩⟩
theorem lw_p16 : lw_okq (⟨"EmberTale$Meeter", "reach", "(IIII)V"⟩, 6) := ⟨⟨by decide +kernel, by decide +kernel⟩, List.mem_of_getElem? (i := 182) (by decide +kernel), List.mem_of_getElem? (i := 724) (by decide +kernel), List.mem_of_getElem? (i := 725) (by decide +kernel)⟩
theorem lw_p17 : lw_okq (⟨"EmberTale$Meeter", "traceBack", "(I)I"⟩, 6) := ⟨⟨by decide +kernel, by decide +kernel⟩, List.mem_of_getElem? (i := 182) (by decide +kernel), List.mem_of_getElem? (i := 732) (by decide +kernel), List.mem_of_getElem? (i := 733) (by decide +kernel)⟩
theorem lw_p18 : lw_okq (⟨"EmberTale", "wouldHelp", "(IIII)Z"⟩, 12) := ⟨⟨by decide +kernel, by decide +kernel⟩, List.mem_of_getElem? (i := 19) (by decide +kernel), List.mem_of_getElem? (i := 750) (by decide +kernel), List.mem_of_getElem? (i := 751) (by decide +kernel)⟩
theorem lw_p19 : lw_okq (⟨"EmberTale$Tale", "endOf", "(ILEmberTale$Row;)I"⟩, 5) := ⟨⟨by decide +kernel, by decide +kernel⟩, List.mem_of_getElem? (i := 44) (by decide +kernel), List.mem_of_getElem? (i := 770) (by decide +kernel), List.mem_of_getElem? (i := 771) (by decide +kernel)⟩
theorem lw_p20 : lw_okq (⟨"EmberTale$Tale", "lengthenWays", "()V"⟩, 5) := ⟨⟨by decide +kernel, by decide +kernel⟩, List.mem_of_getElem? (i := 44) (by decide +kernel), List.mem_of_getElem? (i := 784) (by decide +kernel), List.mem_of_getElem? (i := 785) (by decide +kernel)⟩
theorem lw_p21 : lw_okq (⟨"EmberTale$Chance", "burn", "(III)V"⟩, 3) := ⟨⟨by decide +kernel, by decide +kernel⟩, List.mem_of_getElem? (i := 209) (by decide +kernel), List.mem_of_getElem? (i := 801) (by decide +kernel), List.mem_of_getElem? (i := 802) (by decide +kernel)⟩
theorem lw_p22 : lw_okq (⟨"EmberTale$Chance", "addWays", "(II)V"⟩, 3) := ⟨⟨by decide +kernel, by decide +kernel⟩, List.mem_of_getElem? (i := 209) (by decide +kernel), List.mem_of_getElem? (i := 807) (by decide +kernel), List.mem_of_getElem? (i := 808) (by decide +kernel)⟩
theorem lw_p23 : lw_okq (⟨"EmberTaleModel", "begins", "()V"⟩, 23) := ⟨⟨by decide +kernel, by decide +kernel⟩, List.mem_of_getElem? (i := 859) (by decide +kernel), List.mem_of_getElem? (i := 871) (by decide +kernel), List.mem_of_getElem? (i := 872) (by decide +kernel)⟩
theorem lw_p24 : lw_okq (⟨"EmberTaleModel", "reads", "()I"⟩, 23) := ⟨⟨by decide +kernel, by decide +kernel⟩, List.mem_of_getElem? (i := 859) (by decide +kernel), List.mem_of_getElem? (i := 962) (by decide +kernel), List.mem_of_getElem? (i := 963) (by decide +kernel)⟩
theorem lw_p25 : lw_okq (⟨"EmberTaleModel", "readsItem", "()Z"⟩, 23) := ⟨⟨by decide +kernel, by decide +kernel⟩, List.mem_of_getElem? (i := 859) (by decide +kernel), List.mem_of_getElem? (i := 966) (by decide +kernel), List.mem_of_getElem? (i := 967) (by decide +kernel)⟩
theorem lw_p26 : lw_okq (⟨"EmberTaleModel", "here", "()I"⟩, 23) := ⟨⟨by decide +kernel, by decide +kernel⟩, List.mem_of_getElem? (i := 859) (by decide +kernel), List.mem_of_getElem? (i := 970) (by decide +kernel), List.mem_of_getElem? (i := 971) (by decide +kernel)⟩
theorem lw_p27 : lw_okq (⟨"EmberTaleModel", "readsLine", "()Z"⟩, 23) := ⟨⟨by decide +kernel, by decide +kernel⟩, List.mem_of_getElem? (i := 859) (by decide +kernel), List.mem_of_getElem? (i := 974) (by decide +kernel), List.mem_of_getElem? (i := 975) (by decide +kernel)⟩
theorem lw_p28 : lw_okq (⟨"EmberTaleModel", "readsRain", "()Z"⟩, 23) := ⟨⟨by decide +kernel, by decide +kernel⟩, List.mem_of_getElem? (i := 859) (by decide +kernel), List.mem_of_getElem? (i := 983) (by decide +kernel), List.mem_of_getElem? (i := 984) (by decide +kernel)⟩
theorem lw_p29 : lw_okq (⟨"EmberTaleModel", "number", "(II)Z"⟩, 23) := ⟨⟨by decide +kernel, by decide +kernel⟩, List.mem_of_getElem? (i := 859) (by decide +kernel), List.mem_of_getElem? (i := 987) (by decide +kernel), List.mem_of_getElem? (i := 988) (by decide +kernel)⟩
theorem lw_p30 : lw_okq (⟨"EmberTaleModel", "readsCompany", "()Z"⟩, 23) := ⟨⟨by decide +kernel, by decide +kernel⟩, List.mem_of_getElem? (i := 859) (by decide +kernel), List.mem_of_getElem? (i := 991) (by decide +kernel), List.mem_of_getElem? (i := 992) (by decide +kernel)⟩
theorem lw_p31 : lw_okq (⟨"EmberTaleModel", "takes", "(I)Z"⟩, 23) := ⟨⟨by decide +kernel, by decide +kernel⟩, List.mem_of_getElem? (i := 859) (by decide +kernel), List.mem_of_getElem? (i := 995) (by decide +kernel), List.mem_of_getElem? (i := 996) (by decide +kernel)⟩
def lw_privs_2 : List (MethodName × Nat) := [(⟨"EmberTale$Meeter", "reach", "(IIII)V"⟩, 6), (⟨"EmberTale$Meeter", "traceBack", "(I)I"⟩, 6), (⟨"EmberTale", "wouldHelp", "(IIII)Z"⟩, 12), (⟨"EmberTale$Tale", "endOf", "(ILEmberTale$Row;)I"⟩, 5), (⟨"EmberTale$Tale", "lengthenWays", "()V"⟩, 5), (⟨"EmberTale$Chance", "burn", "(III)V"⟩, 3), (⟨"EmberTale$Chance", "addWays", "(II)V"⟩, 3), (⟨"EmberTaleModel", "begins", "()V"⟩, 23), (⟨"EmberTaleModel", "reads", "()I"⟩, 23), (⟨"EmberTaleModel", "readsItem", "()Z"⟩, 23), (⟨"EmberTaleModel", "here", "()I"⟩, 23), (⟨"EmberTaleModel", "readsLine", "()Z"⟩, 23), (⟨"EmberTaleModel", "readsRain", "()Z"⟩, 23), (⟨"EmberTaleModel", "number", "(II)Z"⟩, 23), (⟨"EmberTaleModel", "readsCompany", "()Z"⟩, 23), (⟨"EmberTaleModel", "takes", "(I)Z"⟩, 23)]
theorem lw_r2 : ∀ q ∈ lw_privs_2, lw_okq q := List.forall_mem_cons.mpr ⟨lw_p16, List.forall_mem_cons.mpr ⟨lw_p17, List.forall_mem_cons.mpr ⟨lw_p18, List.forall_mem_cons.mpr ⟨lw_p19, List.forall_mem_cons.mpr ⟨lw_p20, List.forall_mem_cons.mpr ⟨lw_p21, List.forall_mem_cons.mpr ⟨lw_p22, List.forall_mem_cons.mpr ⟨lw_p23, List.forall_mem_cons.mpr ⟨lw_p24, List.forall_mem_cons.mpr ⟨lw_p25, List.forall_mem_cons.mpr ⟨lw_p26, List.forall_mem_cons.mpr ⟨lw_p27, List.forall_mem_cons.mpr ⟨lw_p28, List.forall_mem_cons.mpr ⟨lw_p29, List.forall_mem_cons.mpr ⟨lw_p30, List.forall_mem_cons.mpr ⟨lw_p31, fun _ h => absurd h List.not_mem_nil⟩⟩⟩⟩⟩⟩⟩⟩⟩⟩⟩⟩⟩⟩⟩⟩
theorem lw_p32 : lw_okq (⟨"EmberTaleModel", "areTold", "()Z"⟩, 23) := ⟨⟨by decide +kernel, by decide +kernel⟩, List.mem_of_getElem? (i := 859) (by decide +kernel), List.mem_of_getElem? (i := 1003) (by decide +kernel), List.mem_of_getElem? (i := 1004) (by decide +kernel)⟩
theorem lw_p33 : lw_okq (⟨"EmberTaleModel", "isLine", "(I)Z"⟩, 23) := ⟨⟨by decide +kernel, by decide +kernel⟩, List.mem_of_getElem? (i := 859) (by decide +kernel), List.mem_of_getElem? (i := 1014) (by decide +kernel), List.mem_of_getElem? (i := 1015) (by decide +kernel)⟩
theorem lw_p34 : lw_okq (⟨"EmberTaleModel", "behind", "(II)I"⟩, 23) := ⟨⟨by decide +kernel, by decide +kernel⟩, List.mem_of_getElem? (i := 859) (by decide +kernel), List.mem_of_getElem? (i := 1022) (by decide +kernel), List.mem_of_getElem? (i := 1023) (by decide +kernel)⟩
theorem lw_p35 : lw_okq (⟨"EmberTaleModel", "rainAt", "(I)I"⟩, 23) := ⟨⟨by decide +kernel, by decide +kernel⟩, List.mem_of_getElem? (i := 859) (by decide +kernel), List.mem_of_getElem? (i := 1031) (by decide +kernel), List.mem_of_getElem? (i := 1032) (by decide +kernel)⟩
theorem lw_p36 : lw_okq (⟨"EmberTaleModel", "isCompany", "(I)Z"⟩, 23) := ⟨⟨by decide +kernel, by decide +kernel⟩, List.mem_of_getElem? (i := 859) (by decide +kernel), List.mem_of_getElem? (i := 1039) (by decide +kernel), List.mem_of_getElem? (i := 1040) (by decide +kernel)⟩
theorem lw_p37 : lw_okq (⟨"EmberTaleModel", "remember", "()V"⟩, 23) := ⟨⟨by decide +kernel, by decide +kernel⟩, List.mem_of_getElem? (i := 859) (by decide +kernel), List.mem_of_getElem? (i := 1050) (by decide +kernel), List.mem_of_getElem? (i := 1051) (by decide +kernel)⟩
theorem lw_p38 : lw_okq (⟨"EmberTaleModel", "puts", "([III)V"⟩, 23) := ⟨⟨by decide +kernel, by decide +kernel⟩, List.mem_of_getElem? (i := 859) (by decide +kernel), List.mem_of_getElem? (i := 1054) (by decide +kernel), List.mem_of_getElem? (i := 1055) (by decide +kernel)⟩
theorem lw_p39 : lw_okq (⟨"EmberTaleModel", "hourGoes", "([I)V"⟩, 23) := ⟨⟨by decide +kernel, by decide +kernel⟩, List.mem_of_getElem? (i := 859) (by decide +kernel), List.mem_of_getElem? (i := 1069) (by decide +kernel), List.mem_of_getElem? (i := 1070) (by decide +kernel)⟩
theorem lw_p40 : lw_okq (⟨"EmberTaleModel", "insOf", "([I)I"⟩, 23) := ⟨⟨by decide +kernel, by decide +kernel⟩, List.mem_of_getElem? (i := 859) (by decide +kernel), List.mem_of_getElem? (i := 1076) (by decide +kernel), List.mem_of_getElem? (i := 1077) (by decide +kernel)⟩
theorem lw_p41 : lw_okq (⟨"EmberTaleModel", "isIn", "(I)Z"⟩, 23) := ⟨⟨by decide +kernel, by decide +kernel⟩, List.mem_of_getElem? (i := 859) (by decide +kernel), List.mem_of_getElem? (i := 1094) (by decide +kernel), List.mem_of_getElem? (i := 1095) (by decide +kernel)⟩
theorem lw_p42 : lw_okq (⟨"EmberTaleModel", "mayHand", "(III)Z"⟩, 23) := ⟨⟨by decide +kernel, by decide +kernel⟩, List.mem_of_getElem? (i := 859) (by decide +kernel), List.mem_of_getElem? (i := 1102) (by decide +kernel), List.mem_of_getElem? (i := 1103) (by decide +kernel)⟩
theorem lw_p43 : lw_okq (⟨"EmberTaleModel", "layLogs", "(I)V"⟩, 23) := ⟨⟨by decide +kernel, by decide +kernel⟩, List.mem_of_getElem? (i := 859) (by decide +kernel), List.mem_of_getElem? (i := 1119) (by decide +kernel), List.mem_of_getElem? (i := 1120) (by decide +kernel)⟩
theorem lw_p44 : lw_okq (⟨"EmberTaleModel", "keeps", "(II)I"⟩, 23) := ⟨⟨by decide +kernel, by decide +kernel⟩, List.mem_of_getElem? (i := 859) (by decide +kernel), List.mem_of_getElem? (i := 1123) (by decide +kernel), List.mem_of_getElem? (i := 1124) (by decide +kernel)⟩
theorem lw_p45 : lw_okq (⟨"EmberTaleModel", "keptBy", "(III)I"⟩, 23) := ⟨⟨by decide +kernel, by decide +kernel⟩, List.mem_of_getElem? (i := 859) (by decide +kernel), List.mem_of_getElem? (i := 1128) (by decide +kernel), List.mem_of_getElem? (i := 1129) (by decide +kernel)⟩
theorem lw_p46 : lw_okq (⟨"EmberTaleModel", "giveBack", "(I)I"⟩, 23) := ⟨⟨by decide +kernel, by decide +kernel⟩, List.mem_of_getElem? (i := 859) (by decide +kernel), List.mem_of_getElem? (i := 1132) (by decide +kernel), List.mem_of_getElem? (i := 1133) (by decide +kernel)⟩
theorem lw_p47 : lw_okq (⟨"EmberTaleModel", "tellsFor", "(II)I"⟩, 23) := ⟨⟨by decide +kernel, by decide +kernel⟩, List.mem_of_getElem? (i := 859) (by decide +kernel), List.mem_of_getElem? (i := 1140) (by decide +kernel), List.mem_of_getElem? (i := 1141) (by decide +kernel)⟩
def lw_privs_3 : List (MethodName × Nat) := [(⟨"EmberTaleModel", "areTold", "()Z"⟩, 23), (⟨"EmberTaleModel", "isLine", "(I)Z"⟩, 23), (⟨"EmberTaleModel", "behind", "(II)I"⟩, 23), (⟨"EmberTaleModel", "rainAt", "(I)I"⟩, 23), (⟨"EmberTaleModel", "isCompany", "(I)Z"⟩, 23), (⟨"EmberTaleModel", "remember", "()V"⟩, 23), (⟨"EmberTaleModel", "puts", "([III)V"⟩, 23), (⟨"EmberTaleModel", "hourGoes", "([I)V"⟩, 23), (⟨"EmberTaleModel", "insOf", "([I)I"⟩, 23), (⟨"EmberTaleModel", "isIn", "(I)Z"⟩, 23), (⟨"EmberTaleModel", "mayHand", "(III)Z"⟩, 23), (⟨"EmberTaleModel", "layLogs", "(I)V"⟩, 23), (⟨"EmberTaleModel", "keeps", "(II)I"⟩, 23), (⟨"EmberTaleModel", "keptBy", "(III)I"⟩, 23), (⟨"EmberTaleModel", "giveBack", "(I)I"⟩, 23), (⟨"EmberTaleModel", "tellsFor", "(II)I"⟩, 23)]
theorem lw_r3 : ∀ q ∈ lw_privs_3, lw_okq q := List.forall_mem_cons.mpr ⟨lw_p32, List.forall_mem_cons.mpr ⟨lw_p33, List.forall_mem_cons.mpr ⟨lw_p34, List.forall_mem_cons.mpr ⟨lw_p35, List.forall_mem_cons.mpr ⟨lw_p36, List.forall_mem_cons.mpr ⟨lw_p37, List.forall_mem_cons.mpr ⟨lw_p38, List.forall_mem_cons.mpr ⟨lw_p39, List.forall_mem_cons.mpr ⟨lw_p40, List.forall_mem_cons.mpr ⟨lw_p41, List.forall_mem_cons.mpr ⟨lw_p42, List.forall_mem_cons.mpr ⟨lw_p43, List.forall_mem_cons.mpr ⟨lw_p44, List.forall_mem_cons.mpr ⟨lw_p45, List.forall_mem_cons.mpr ⟨lw_p46, List.forall_mem_cons.mpr ⟨lw_p47, fun _ h => absurd h List.not_mem_nil⟩⟩⟩⟩⟩⟩⟩⟩⟩⟩⟩⟩⟩⟩⟩⟩
theorem lw_p48 : lw_okq (⟨"EmberTaleModel", "tellsBy", "(III)Z"⟩, 23) := ⟨⟨by decide +kernel, by decide +kernel⟩, List.mem_of_getElem? (i := 859) (by decide +kernel), List.mem_of_getElem? (i := 1144) (by decide +kernel), List.mem_of_getElem? (i := 1145) (by decide +kernel)⟩
theorem lw_p49 : lw_okq (⟨"EmberTaleModel", "goes", "(II)I"⟩, 23) := ⟨⟨by decide +kernel, by decide +kernel⟩, List.mem_of_getElem? (i := 859) (by decide +kernel), List.mem_of_getElem? (i := 1148) (by decide +kernel), List.mem_of_getElem? (i := 1149) (by decide +kernel)⟩
theorem lw_p50 : lw_okq (⟨"EmberTaleModel", "meets", "(II)I"⟩, 23) := ⟨⟨by decide +kernel, by decide +kernel⟩, List.mem_of_getElem? (i := 859) (by decide +kernel), List.mem_of_getElem? (i := 1156) (by decide +kernel), List.mem_of_getElem? (i := 1157) (by decide +kernel)⟩
theorem lw_p51 : lw_okq (⟨"EmberTaleModel", "laysWay", "(I)I"⟩, 23) := ⟨⟨by decide +kernel, by decide +kernel⟩, List.mem_of_getElem? (i := 859) (by decide +kernel), List.mem_of_getElem? (i := 1160) (by decide +kernel), List.mem_of_getElem? (i := 1161) (by decide +kernel)⟩
theorem lw_p52 : lw_okq (⟨"EmberTaleModel", "isKeptWith", "(IIII)Z"⟩, 23) := ⟨⟨by decide +kernel, by decide +kernel⟩, List.mem_of_getElem? (i := 859) (by decide +kernel), List.mem_of_getElem? (i := 1175) (by decide +kernel), List.mem_of_getElem? (i := 1176) (by decide +kernel)⟩
theorem lw_p53 : lw_okq (⟨"EmberTaleModel", "logsOfAll", "()I"⟩, 23) := ⟨⟨by decide +kernel, by decide +kernel⟩, List.mem_of_getElem? (i := 859) (by decide +kernel), List.mem_of_getElem? (i := 1228) (by decide +kernel), List.mem_of_getElem? (i := 1229) (by decide +kernel)⟩
def lw_privs_4 : List (MethodName × Nat) := [(⟨"EmberTaleModel", "tellsBy", "(III)Z"⟩, 23), (⟨"EmberTaleModel", "goes", "(II)I"⟩, 23), (⟨"EmberTaleModel", "meets", "(II)I"⟩, 23), (⟨"EmberTaleModel", "laysWay", "(I)I"⟩, 23), (⟨"EmberTaleModel", "isKeptWith", "(IIII)Z"⟩, 23), (⟨"EmberTaleModel", "logsOfAll", "()I"⟩, 23)]
theorem lw_r4 : ∀ q ∈ lw_privs_4, lw_okq q := List.forall_mem_cons.mpr ⟨lw_p48, List.forall_mem_cons.mpr ⟨lw_p49, List.forall_mem_cons.mpr ⟨lw_p50, List.forall_mem_cons.mpr ⟨lw_p51, List.forall_mem_cons.mpr ⟨lw_p52, List.forall_mem_cons.mpr ⟨lw_p53, fun _ h => absurd h List.not_mem_nil⟩⟩⟩⟩⟩⟩
def lw_privs : List (MethodName × Nat) := lw_privs_1 ++ (lw_privs_2 ++ (lw_privs_3 ++ (lw_privs_4)))
def lw_tbl : List Cond := k2_sels lw_privs ++ tables_1
theorem lw_privs_ok : ∀ q ∈ lw_privs, lw_okq q := by
  show ∀ q ∈ lw_privs_1 ++ (lw_privs_2 ++ (lw_privs_3 ++ (lw_privs_4))), lw_okq q
  exact List.forall_mem_append.mpr ⟨lw_r1, List.forall_mem_append.mpr ⟨lw_r2, List.forall_mem_append.mpr ⟨lw_r3, lw_r4⟩⟩⟩
-- ===== end of PART A; then your names; then what follows =====
def RX0 : String := "EmberTale$Camp"
def TX0 : u_T := fun k => match k with
  | 0 => ("EmberTale$Camp", "tale", "LEmberTale$Tale;", true)
  | 1 => ("EmberTale$Camp", "numbers", "LEmberTale$Row;", true)
  | _ => ("EmberTale$Camp", "hours", "I", false)
def tyX0 : Nat → FieldType := fun k => match k with
  | 0 => .object "EmberTale$Tale"
  | 1 => .object "EmberTale$Row"
  | _ => .int
abbrev wsX00 : List Cond := u_ws RX0 TX0 3
theorem nmX0 : ∀ a, a < 3 → ∀ b, b < 3 → a ≠ b → (TX0 a).2.1 ≠ (TX0 b).2.1 := by decide +kernel
theorem tyX0_ok : ∀ k, k < 3 → parseFieldDescriptor (TX0 k).2.2.1 = some (tyX0 k) := by decide +kernel
abbrev cX0_init : ByteArray := prog_2_method_1_code
def yX0_init : MethodName := ⟨RX0, "<init>", "(LEmberTale$Tale;)V"⟩
abbrev cX0_clear : ByteArray := prog_2_method_2_code
def yX0_clear : MethodName := ⟨RX0, "clear", "()V"⟩
abbrev cX0_become : ByteArray := prog_2_method_3_code
def yX0_become : MethodName := ⟨RX0, "become", "(LEmberTale$Camp;)V"⟩
abbrev cX0_addCompany : ByteArray := prog_2_method_4_code
def yX0_addCompany : MethodName := ⟨RX0, "addCompany", "(LEmberTale$Row;)Z"⟩
abbrev cX0_companies : ByteArray := prog_2_method_5_code
def yX0_companies : MethodName := ⟨RX0, "companies", "()I"⟩
abbrev cX0_hours : ByteArray := prog_2_method_6_code
def yX0_hours : MethodName := ⟨RX0, "hours", "()I"⟩
abbrev cX0_isCompany : ByteArray := prog_2_method_7_code
def yX0_isCompany : MethodName := ⟨RX0, "isCompany", "(I)Z"⟩
abbrev cX0_get : ByteArray := prog_2_method_8_code
def yX0_get : MethodName := ⟨RX0, "get", "(II)I"⟩
abbrev cX0_set : ByteArray := prog_2_method_9_code
def yX0_set : MethodName := ⟨RX0, "set", "(III)V"⟩
abbrev cX0_change : ByteArray := prog_2_method_10_code
def yX0_change : MethodName := ⟨RX0, "change", "(III)V"⟩
abbrev cX0_isIn : ByteArray := prog_2_method_11_code
def yX0_isIn : MethodName := ⟨RX0, "isIn", "(I)Z"⟩
abbrev cX0_canFeed : ByteArray := prog_2_method_12_code
def yX0_canFeed : MethodName := ⟨RX0, "canFeed", "(II)Z"⟩
abbrev cX0_feed : ByteArray := prog_2_method_13_code
def yX0_feed : MethodName := ⟨RX0, "feed", "(II)V"⟩
abbrev cX0_setHot : ByteArray := prog_2_method_14_code
def yX0_setHot : MethodName := ⟨RX0, "setHot", "(II)V"⟩
abbrev cX0_burnAnHour : ByteArray := prog_2_method_15_code
def yX0_burnAnHour : MethodName := ⟨RX0, "burnAnHour", "()V"⟩
abbrev cX0_canKindle : ByteArray := prog_2_method_16_code
def yX0_canKindle : MethodName := ⟨RX0, "canKindle", "(II)Z"⟩
abbrev cX0_kindle : ByteArray := prog_2_method_17_code
def yX0_kindle : MethodName := ⟨RX0, "kindle", "(II)V"⟩
abbrev cX0_merge : ByteArray := prog_2_method_18_code
def yX0_merge : MethodName := ⟨RX0, "merge", "(II)V"⟩
abbrev cX0_canMove : ByteArray := prog_2_method_19_code
def yX0_canMove : MethodName := ⟨RX0, "canMove", "(III)Z"⟩
abbrev cX0_move : ByteArray := prog_2_method_20_code
def yX0_move : MethodName := ⟨RX0, "move", "(III)V"⟩
abbrev cX0_hoursLeft : ByteArray := prog_2_method_21_code
def yX0_hoursLeft : MethodName := ⟨RX0, "hoursLeft", "(I)I"⟩
abbrev cX0_meetDraw : ByteArray := prog_2_method_22_code
def yX0_meetDraw : MethodName := ⟨RX0, "meetDraw", "(I)V"⟩
abbrev cX0_firesIn : ByteArray := prog_2_method_23_code
def yX0_firesIn : MethodName := ⟨RX0, "firesIn", "()I"⟩
abbrev cX0_allLogs : ByteArray := prog_2_method_24_code
def yX0_allLogs : MethodName := ⟨RX0, "allLogs", "()I"⟩
abbrev cX0_linesTold : ByteArray := prog_2_method_25_code
def yX0_linesTold : MethodName := ⟨RX0, "linesTold", "()I"⟩
def RX1 : String := "EmberTale$Chance"
def TX1 : u_T := fun k => match k with
  | 0 => ("EmberTale$Chance", "tale", "LEmberTale$Tale;", true)
  | 1 => ("EmberTale$Chance", "ways", "LEmberTale$Row;", true)
  | _ => ("EmberTale$Chance", "waysBehind", "LEmberTale$Row;", true)
def tyX1 : Nat → FieldType := fun k => match k with
  | 0 => .object "EmberTale$Tale"
  | 1 => .object "EmberTale$Row"
  | _ => .object "EmberTale$Row"
abbrev wsX10 : List Cond := u_ws RX1 TX1 3
theorem nmX1 : ∀ a, a < 3 → ∀ b, b < 3 → a ≠ b → (TX1 a).2.1 ≠ (TX1 b).2.1 := by decide +kernel
theorem tyX1_ok : ∀ k, k < 3 → parseFieldDescriptor (TX1 k).2.2.1 = some (tyX1 k) := by decide +kernel
abbrev cX1_init : ByteArray := prog_3_method_1_code
def yX1_init : MethodName := ⟨RX1, "<init>", "(LEmberTale$Tale;)V"⟩
abbrev cX1_ofBeingIn : ByteArray := prog_3_method_2_code
def yX1_ofBeingIn : MethodName := ⟨RX1, "ofBeingIn", "(LEmberTale$Camp;IIII)I"⟩
abbrev cX1_burn : ByteArray := prog_3_method_3_code
def yX1_burn : MethodName := ⟨RX1, "burn", "(III)V"⟩
abbrev cX1_addWays : ByteArray := prog_3_method_4_code
def yX1_addWays : MethodName := ⟨RX1, "addWays", "(II)V"⟩
abbrev cX1_commonDivisor : ByteArray := prog_3_method_5_code
def yX1_commonDivisor : MethodName := ⟨RX1, "commonDivisor", "(II)I"⟩
def RX2 : String := "EmberTale$Fire"
def TX2 : u_T := fun k => match k with
  | _ => ("", "", "", false)
def tyX2 : Nat → FieldType := fun k => match k with
  | _ => .int
abbrev wsX20 : List Cond := u_ws RX2 TX2 0
theorem nmX2 : ∀ a, a < 0 → ∀ b, b < 0 → a ≠ b → (TX2 a).2.1 ≠ (TX2 b).2.1 := by decide +kernel
theorem tyX2_ok : ∀ k, k < 0 → parseFieldDescriptor (TX2 k).2.2.1 = some (tyX2 k) := by decide +kernel
abbrev cX2_fed : ByteArray := prog_4_method_2_code
def yX2_fed : MethodName := ⟨RX2, "fed", "(II)I"⟩
abbrev cX2_burnt : ByteArray := prog_4_method_3_code
def yX2_burnt : MethodName := ⟨RX2, "burnt", "(III)I"⟩
abbrev cX2_heatOf : ByteArray := prog_4_method_4_code
def yX2_heatOf : MethodName := ⟨RX2, "heatOf", "(I)I"⟩
def RX3 : String := "EmberTale$Keeper"
def TX3 : u_T := fun k => match k with
  | 0 => ("EmberTale$Keeper", "tale", "LEmberTale$Tale;", true)
  | 1 => ("EmberTale$Keeper", "logs", "LEmberTale$Row;", true)
  | 2 => ("EmberTale$Keeper", "way", "LEmberTale$Row;", true)
  | 3 => ("EmberTale$Keeper", "start", "I", false)
  | _ => ("EmberTale$Keeper", "hours", "I", false)
def tyX3 : Nat → FieldType := fun k => match k with
  | 0 => .object "EmberTale$Tale"
  | 1 => .object "EmberTale$Row"
  | 2 => .object "EmberTale$Row"
  | 3 => .int
  | _ => .int
abbrev wsX30 : List Cond := u_ws RX3 TX3 5
theorem nmX3 : ∀ a, a < 5 → ∀ b, b < 5 → a ≠ b → (TX3 a).2.1 ≠ (TX3 b).2.1 := by decide +kernel
theorem tyX3_ok : ∀ k, k < 5 → parseFieldDescriptor (TX3 k).2.2.1 = some (tyX3 k) := by decide +kernel
abbrev cX3_init : ByteArray := prog_5_method_1_code
def yX3_init : MethodName := ⟨RX3, "<init>", "(LEmberTale$Tale;)V"⟩
abbrev cX3_fewest : ByteArray := prog_5_method_2_code
def yX3_fewest : MethodName := ⟨RX3, "fewest", "(LEmberTale$Camp;II)I"⟩
abbrev cX3_woodAhead : ByteArray := prog_5_method_3_code
def yX3_woodAhead : MethodName := ⟨RX3, "woodAhead", "(I)I"⟩
abbrev cX3_isKept : ByteArray := prog_5_method_4_code
def yX3_isKept : MethodName := ⟨RX3, "isKept", "(IIII)Z"⟩
abbrev cX3_isKeptBy : ByteArray := prog_5_method_5_code
def yX3_isKeptBy : MethodName := ⟨RX3, "isKeptBy", "(IIII)Z"⟩
def RX4 : String := "EmberTale$Meeter"
def TX4 : u_T := fun k => match k with
  | 0 => ("EmberTale$Meeter", "tale", "LEmberTale$Tale;", true)
  | 1 => ("EmberTale$Meeter", "pairs", "LEmberTale$Row;", true)
  | 2 => ("EmberTale$Meeter", "pairAhead", "LEmberTale$Row;", true)
  | 3 => ("EmberTale$Meeter", "woodBy", "LEmberTale$Row;", true)
  | 4 => ("EmberTale$Meeter", "found", "LEmberTale$Row;", true)
  | _ => ("EmberTale$Meeter", "wayBackwards", "LEmberTale$Row;", true)
def tyX4 : Nat → FieldType := fun k => match k with
  | 0 => .object "EmberTale$Tale"
  | 1 => .object "EmberTale$Row"
  | 2 => .object "EmberTale$Row"
  | 3 => .object "EmberTale$Row"
  | 4 => .object "EmberTale$Row"
  | _ => .object "EmberTale$Row"
abbrev wsX40 : List Cond := u_ws RX4 TX4 6
theorem nmX4 : ∀ a, a < 6 → ∀ b, b < 6 → a ≠ b → (TX4 a).2.1 ≠ (TX4 b).2.1 := by decide +kernel
theorem tyX4_ok : ∀ k, k < 6 → parseFieldDescriptor (TX4 k).2.2.1 = some (tyX4 k) := by decide +kernel
abbrev cX4_init : ByteArray := prog_6_method_1_code
def yX4_init : MethodName := ⟨RX4, "<init>", "(LEmberTale$Tale;)V"⟩
abbrev cX4_shortest : ByteArray := prog_6_method_2_code
def yX4_shortest : MethodName := ⟨RX4, "shortest", "(II)I"⟩
abbrev cX4_woodAt : ByteArray := prog_6_method_3_code
def yX4_woodAt : MethodName := ⟨RX4, "woodAt", "(I)I"⟩
abbrev cX4_reach : ByteArray := prog_6_method_4_code
def yX4_reach : MethodName := ⟨RX4, "reach", "(IIII)V"⟩
abbrev cX4_traceBack : ByteArray := prog_6_method_5_code
def yX4_traceBack : MethodName := ⟨RX4, "traceBack", "(I)I"⟩
def RX5 : String := "EmberTale$Reader"
def TX5 : u_T := fun k => match k with
  | 0 => ("EmberTale$Reader", "text", "LEmberTale$Row;", true)
  | 1 => ("EmberTale$Reader", "numbers", "LEmberTale$Row;", true)
  | 2 => ("EmberTale$Reader", "tale", "LEmberTale$Tale;", true)
  | 3 => ("EmberTale$Reader", "camp", "LEmberTale$Camp;", true)
  | _ => ("EmberTale$Reader", "place", "I", false)
def tyX5 : Nat → FieldType := fun k => match k with
  | 0 => .object "EmberTale$Row"
  | 1 => .object "EmberTale$Row"
  | 2 => .object "EmberTale$Tale"
  | 3 => .object "EmberTale$Camp"
  | _ => .int
abbrev wsX50 : List Cond := u_ws RX5 TX5 5
theorem nmX5 : ∀ a, a < 5 → ∀ b, b < 5 → a ≠ b → (TX5 a).2.1 ≠ (TX5 b).2.1 := by decide +kernel
theorem tyX5_ok : ∀ k, k < 5 → parseFieldDescriptor (TX5 k).2.2.1 = some (tyX5 k) := by decide +kernel
abbrev cX5_init : ByteArray := prog_7_method_1_code
def yX5_init : MethodName := ⟨RX5, "<init>", "(LEmberTale$Row;)V"⟩
abbrev cX5_tale : ByteArray := prog_7_method_2_code
def yX5_tale : MethodName := ⟨RX5, "tale", "()LEmberTale$Tale;"⟩
abbrev cX5_camp : ByteArray := prog_7_method_3_code
def yX5_camp : MethodName := ⟨RX5, "camp", "()LEmberTale$Camp;"⟩
abbrev cX5_readAWhole : ByteArray := prog_7_method_4_code
def yX5_readAWhole : MethodName := ⟨RX5, "readAWhole", "()Z"⟩
abbrev cX5_firstFault : ByteArray := prog_7_method_5_code
def yX5_firstFault : MethodName := ⟨RX5, "firstFault", "()I"⟩
abbrev cX5_readItem : ByteArray := prog_7_method_6_code
def yX5_readItem : MethodName := ⟨RX5, "readItem", "()Z"⟩
abbrev cX5_readFigures : ByteArray := prog_7_method_7_code
def yX5_readFigures : MethodName := ⟨RX5, "readFigures", "(I)Z"⟩
abbrev cX5_readNumbers : ByteArray := prog_7_method_8_code
def yX5_readNumbers : MethodName := ⟨RX5, "readNumbers", "(I)Z"⟩
abbrev cX5_readNumber : ByteArray := prog_7_method_9_code
def yX5_readNumber : MethodName := ⟨RX5, "readNumber", "()I"⟩
abbrev cX5_take : ByteArray := prog_7_method_10_code
def yX5_take : MethodName := ⟨RX5, "take", "()I"⟩
abbrev cX5_figureOf : ByteArray := prog_7_method_11_code
def yX5_figureOf : MethodName := ⟨RX5, "figureOf", "(I)I"⟩
def RX6 : String := "EmberTale$Row"
def TX6 : u_T := fun k => match k with
  | 0 => ("EmberTale$Row", "cells", "[I", true)
  | _ => ("EmberTale$Row", "size", "I", false)
def tyX6 : Nat → FieldType := fun k => match k with
  | 0 => .array .int
  | _ => .int
abbrev wsX60 : List Cond := u_ws RX6 TX6 2
theorem nmX6 : ∀ a, a < 2 → ∀ b, b < 2 → a ≠ b → (TX6 a).2.1 ≠ (TX6 b).2.1 := by decide +kernel
theorem tyX6_ok : ∀ k, k < 2 → parseFieldDescriptor (TX6 k).2.2.1 = some (tyX6 k) := by decide +kernel
abbrev cX6_init : ByteArray := prog_8_method_1_code
def yX6_init : MethodName := ⟨RX6, "<init>", "(I)V"⟩
abbrev cX6_size : ByteArray := prog_8_method_2_code
def yX6_size : MethodName := ⟨RX6, "size", "()I"⟩
abbrev cX6_isFull : ByteArray := prog_8_method_3_code
def yX6_isFull : MethodName := ⟨RX6, "isFull", "()Z"⟩
abbrev cX6_clear : ByteArray := prog_8_method_4_code
def yX6_clear : MethodName := ⟨RX6, "clear", "()V"⟩
abbrev cX6_add : ByteArray := prog_8_method_5_code
def yX6_add : MethodName := ⟨RX6, "add", "(I)V"⟩
abbrev cX6_get : ByteArray := prog_8_method_6_code
def yX6_get : MethodName := ⟨RX6, "get", "(I)I"⟩
abbrev cX6_set : ByteArray := prog_8_method_7_code
def yX6_set : MethodName := ⟨RX6, "set", "(II)V"⟩
abbrev cX6_fill : ByteArray := prog_8_method_8_code
def yX6_fill : MethodName := ⟨RX6, "fill", "(I)V"⟩
abbrev cX6_become : ByteArray := prog_8_method_9_code
def yX6_become : MethodName := ⟨RX6, "become", "(LEmberTale$Row;)V"⟩
def RX7 : String := "EmberTale$Shelf"
def TX7 : u_T := fun k => match k with
  | 0 => ("EmberTale$Shelf", "camps", "[LEmberTale$Camp;", true)
  | 1 => ("EmberTale$Shelf", "first", "I", false)
  | _ => ("EmberTale$Shelf", "size", "I", false)
def tyX7 : Nat → FieldType := fun k => match k with
  | 0 => .array (.object "EmberTale$Camp")
  | 1 => .int
  | _ => .int
abbrev wsX70 : List Cond := u_ws RX7 TX7 3
theorem nmX7 : ∀ a, a < 3 → ∀ b, b < 3 → a ≠ b → (TX7 a).2.1 ≠ (TX7 b).2.1 := by decide +kernel
theorem tyX7_ok : ∀ k, k < 3 → parseFieldDescriptor (TX7 k).2.2.1 = some (tyX7 k) := by decide +kernel
abbrev cX7_init : ByteArray := prog_9_method_1_code
def yX7_init : MethodName := ⟨RX7, "<init>", "(ILEmberTale$Tale;)V"⟩
abbrev cX7_size : ByteArray := prog_9_method_2_code
def yX7_size : MethodName := ⟨RX7, "size", "()I"⟩
abbrev cX7_isFull : ByteArray := prog_9_method_3_code
def yX7_isFull : MethodName := ⟨RX7, "isFull", "()Z"⟩
abbrev cX7_clear : ByteArray := prog_9_method_4_code
def yX7_clear : MethodName := ⟨RX7, "clear", "()V"⟩
abbrev cX7_push : ByteArray := prog_9_method_5_code
def yX7_push : MethodName := ⟨RX7, "push", "(LEmberTale$Camp;)V"⟩
abbrev cX7_pop : ByteArray := prog_9_method_6_code
def yX7_pop : MethodName := ⟨RX7, "pop", "(LEmberTale$Camp;)Z"⟩
abbrev cX7_slotOf : ByteArray := prog_9_method_7_code
def yX7_slotOf : MethodName := ⟨RX7, "slotOf", "(I)LEmberTale$Camp;"⟩
def RX8 : String := "EmberTale$Tale"
def TX8 : u_T := fun k => match k with
  | 0 => ("EmberTale$Tale", "next", "LEmberTale$Row;", true)
  | 1 => ("EmberTale$Tale", "rainfall", "LEmberTale$Row;", true)
  | 2 => ("EmberTale$Tale", "ways", "LEmberTale$Row;", true)
  | 3 => ("EmberTale$Tale", "waysBehind", "LEmberTale$Row;", true)
  | _ => ("EmberTale$Tale", "lines", "I", false)
def tyX8 : Nat → FieldType := fun k => match k with
  | 0 => .object "EmberTale$Row"
  | 1 => .object "EmberTale$Row"
  | 2 => .object "EmberTale$Row"
  | 3 => .object "EmberTale$Row"
  | _ => .int
abbrev wsX80 : List Cond := u_ws RX8 TX8 5
theorem nmX8 : ∀ a, a < 5 → ∀ b, b < 5 → a ≠ b → (TX8 a).2.1 ≠ (TX8 b).2.1 := by decide +kernel
theorem tyX8_ok : ∀ k, k < 5 → parseFieldDescriptor (TX8 k).2.2.1 = some (tyX8 k) := by decide +kernel
abbrev cX8_init : ByteArray := prog_10_method_1_code
def yX8_init : MethodName := ⟨RX8, "<init>", "()V"⟩
abbrev cX8_clear : ByteArray := prog_10_method_2_code
def yX8_clear : MethodName := ⟨RX8, "clear", "()V"⟩
abbrev cX8_become : ByteArray := prog_10_method_3_code
def yX8_become : MethodName := ⟨RX8, "become", "(LEmberTale$Tale;)V"⟩
abbrev cX8_addLine : ByteArray := prog_10_method_4_code
def yX8_addLine : MethodName := ⟨RX8, "addLine", "(LEmberTale$Row;)Z"⟩
abbrev cX8_addRain : ByteArray := prog_10_method_5_code
def yX8_addRain : MethodName := ⟨RX8, "addRain", "(I)Z"⟩
abbrev cX8_lines : ByteArray := prog_10_method_6_code
def yX8_lines : MethodName := ⟨RX8, "lines", "()I"⟩
abbrev cX8_isLine : ByteArray := prog_10_method_7_code
def yX8_isLine : MethodName := ⟨RX8, "isLine", "(I)Z"⟩
abbrev cX8_tellsAllItNames : ByteArray := prog_10_method_8_code
def yX8_tellsAllItNames : MethodName := ⟨RX8, "tellsAllItNames", "()Z"⟩
abbrev cX8_behind : ByteArray := prog_10_method_9_code
def yX8_behind : MethodName := ⟨RX8, "behind", "(II)I"⟩
abbrev cX8_comingFrom : ByteArray := prog_10_method_10_code
def yX8_comingFrom : MethodName := ⟨RX8, "comingFrom", "(II)I"⟩
abbrev cX8_rainAt : ByteArray := prog_10_method_11_code
def yX8_rainAt : MethodName := ⟨RX8, "rainAt", "(I)I"⟩
abbrev cX8_reached : ByteArray := prog_10_method_12_code
def yX8_reached : MethodName := ⟨RX8, "reached", "(I)I"⟩
abbrev cX8_oneStepOn : ByteArray := prog_10_method_13_code
def yX8_oneStepOn : MethodName := ⟨RX8, "oneStepOn", "(I)I"⟩
abbrev cX8_origins : ByteArray := prog_10_method_14_code
def yX8_origins : MethodName := ⟨RX8, "origins", "(LEmberTale$Row;I)I"⟩
abbrev cX8_endOf : ByteArray := prog_10_method_15_code
def yX8_endOf : MethodName := ⟨RX8, "endOf", "(ILEmberTale$Row;)I"⟩
abbrev cX8_waysBetween : ByteArray := prog_10_method_16_code
def yX8_waysBetween : MethodName := ⟨RX8, "waysBetween", "(III)I"⟩
abbrev cX8_lengthenWays : ByteArray := prog_10_method_17_code
def yX8_lengthenWays : MethodName := ⟨RX8, "lengthenWays", "()V"⟩
def RX9 : String := "EmberTale$Teller"
def TX9 : u_T := fun k => match k with
  | 0 => ("EmberTale$Teller", "tale", "LEmberTale$Tale;", true)
  | 1 => ("EmberTale$Teller", "logs", "LEmberTale$Row;", true)
  | 2 => ("EmberTale$Teller", "way", "LEmberTale$Row;", true)
  | 3 => ("EmberTale$Teller", "wanted", "I", false)
  | _ => ("EmberTale$Teller", "length", "I", false)
def tyX9 : Nat → FieldType := fun k => match k with
  | 0 => .object "EmberTale$Tale"
  | 1 => .object "EmberTale$Row"
  | 2 => .object "EmberTale$Row"
  | 3 => .int
  | _ => .int
abbrev wsX90 : List Cond := u_ws RX9 TX9 5
theorem nmX9 : ∀ a, a < 5 → ∀ b, b < 5 → a ≠ b → (TX9 a).2.1 ≠ (TX9 b).2.1 := by decide +kernel
theorem tyX9_ok : ∀ k, k < 5 → parseFieldDescriptor (TX9 k).2.2.1 = some (tyX9 k) := by decide +kernel
abbrev cX9_init : ByteArray := prog_11_method_1_code
def yX9_init : MethodName := ⟨RX9, "<init>", "(LEmberTale$Tale;)V"⟩
abbrev cX9_fewest : ByteArray := prog_11_method_2_code
def yX9_fewest : MethodName := ⟨RX9, "fewest", "(LEmberTale$Camp;II)I"⟩
abbrev cX9_woodAt : ByteArray := prog_11_method_3_code
def yX9_woodAt : MethodName := ⟨RX9, "woodAt", "(I)I"⟩
abbrev cX9_isTold : ByteArray := prog_11_method_4_code
def yX9_isTold : MethodName := ⟨RX9, "isTold", "(III)Z"⟩
abbrev cX9_isToldBy : ByteArray := prog_11_method_5_code
def yX9_isToldBy : MethodName := ⟨RX9, "isToldBy", "(IIII)Z"⟩
def RX10 : String := "EmberTale"
def TX10 : u_T := fun k => match k with
  | 0 => ("EmberTale", "text", "LEmberTale$Row;", true)
  | 1 => ("EmberTale", "seen", "LEmberTale$Row;", true)
  | 2 => ("EmberTale", "tale", "LEmberTale$Tale;", true)
  | 3 => ("EmberTale", "camp", "LEmberTale$Camp;", true)
  | 4 => ("EmberTale", "trial", "LEmberTale$Camp;", true)
  | 5 => ("EmberTale", "past", "LEmberTale$Shelf;", true)
  | 6 => ("EmberTale", "kept", "LEmberTale$Shelf;", true)
  | 7 => ("EmberTale", "reader", "LEmberTale$Reader;", true)
  | 8 => ("EmberTale", "keeper", "LEmberTale$Keeper;", true)
  | 9 => ("EmberTale", "teller", "LEmberTale$Teller;", true)
  | 10 => ("EmberTale", "meeter", "LEmberTale$Meeter;", true)
  | _ => ("EmberTale", "chance", "LEmberTale$Chance;", true)
def tyX10 : Nat → FieldType := fun k => match k with
  | 0 => .object "EmberTale$Row"
  | 1 => .object "EmberTale$Row"
  | 2 => .object "EmberTale$Tale"
  | 3 => .object "EmberTale$Camp"
  | 4 => .object "EmberTale$Camp"
  | 5 => .object "EmberTale$Shelf"
  | 6 => .object "EmberTale$Shelf"
  | 7 => .object "EmberTale$Reader"
  | 8 => .object "EmberTale$Keeper"
  | 9 => .object "EmberTale$Teller"
  | 10 => .object "EmberTale$Meeter"
  | _ => .object "EmberTale$Chance"
abbrev wsX100 : List Cond := u_ws RX10 TX10 12
theorem nmX10 : ∀ a, a < 12 → ∀ b, b < 12 → a ≠ b → (TX10 a).2.1 ≠ (TX10 b).2.1 := by decide +kernel
theorem tyX10_ok : ∀ k, k < 12 → parseFieldDescriptor (TX10 k).2.2.1 = some (tyX10 k) := by decide +kernel
abbrev cX10_init : ByteArray := prog_1_method_1_code
def yX10_init : MethodName := ⟨RX10, "<init>", "()V"⟩
abbrev cX10_write : ByteArray := prog_1_method_2_code
def yX10_write : MethodName := ⟨RX10, "write", "(I)I"⟩
abbrev cX10_wipe : ByteArray := prog_1_method_3_code
def yX10_wipe : MethodName := ⟨RX10, "wipe", "()I"⟩
abbrev cX10_fault : ByteArray := prog_1_method_4_code
def yX10_fault : MethodName := ⟨RX10, "fault", "()I"⟩
abbrev cX10_lay : ByteArray := prog_1_method_5_code
def yX10_lay : MethodName := ⟨RX10, "lay", "()I"⟩
abbrev cX10_line : ByteArray := prog_1_method_6_code
def yX10_line : MethodName := ⟨RX10, "line", "(II)I"⟩
abbrev cX10_rain : ByteArray := prog_1_method_7_code
def yX10_rain : MethodName := ⟨RX10, "rain", "(I)I"⟩
abbrev cX10_company : ByteArray := prog_1_method_8_code
def yX10_company : MethodName := ⟨RX10, "company", "(II)I"⟩
abbrev cX10_put : ByteArray := prog_1_method_9_code
def yX10_put : MethodName := ⟨RX10, "put", "(II)I"⟩
abbrev cX10_pass : ByteArray := prog_1_method_10_code
def yX10_pass : MethodName := ⟨RX10, "pass", "(I)I"⟩
abbrev cX10_light : ByteArray := prog_1_method_11_code
def yX10_light : MethodName := ⟨RX10, "light", "(II)I"⟩
abbrev cX10_join : ByteArray := prog_1_method_12_code
def yX10_join : MethodName := ⟨RX10, "join", "(II)I"⟩
abbrev cX10_hand : ByteArray := prog_1_method_13_code
def yX10_hand : MethodName := ⟨RX10, "hand", "(III)I"⟩
abbrev cX10_undo : ByteArray := prog_1_method_14_code
def yX10_undo : MethodName := ⟨RX10, "undo", "()I"⟩
abbrev cX10_lasts : ByteArray := prog_1_method_15_code
def yX10_lasts : MethodName := ⟨RX10, "lasts", "(I)I"⟩
abbrev cX10_stays : ByteArray := prog_1_method_16_code
def yX10_stays : MethodName := ⟨RX10, "stays", "(III)I"⟩
abbrev cX10_tell : ByteArray := prog_1_method_17_code
def yX10_tell : MethodName := ⟨RX10, "tell", "(III)I"⟩
abbrev cX10_meet : ByteArray := prog_1_method_18_code
def yX10_meet : MethodName := ⟨RX10, "meet", "(III)I"⟩
abbrev cX10_can : ByteArray := prog_1_method_19_code
def yX10_can : MethodName := ⟨RX10, "can", "(I)I"⟩
abbrev cX10_give : ByteArray := prog_1_method_20_code
def yX10_give : MethodName := ⟨RX10, "give", "(III)I"⟩
abbrev cX10_see : ByteArray := prog_1_method_21_code
def yX10_see : MethodName := ⟨RX10, "see", "(I)I"⟩
abbrev cX10_forget : ByteArray := prog_1_method_22_code
def yX10_forget : MethodName := ⟨RX10, "forget", "()I"⟩
abbrev cX10_from : ByteArray := prog_1_method_23_code
def yX10_from : MethodName := ⟨RX10, "from", "(I)I"⟩
abbrev cX10_rows : ByteArray := prog_1_method_24_code
def yX10_rows : MethodName := ⟨RX10, "rows", "(III)I"⟩
abbrev cX10_rains : ByteArray := prog_1_method_25_code
def yX10_rains : MethodName := ⟨RX10, "rains", "(IIII)I"⟩
abbrev cX10_winter : ByteArray := prog_1_method_26_code
def yX10_winter : MethodName := ⟨RX10, "winter", "(III)I"⟩
abbrev cX10_keep : ByteArray := prog_1_method_27_code
def yX10_keep : MethodName := ⟨RX10, "keep", "()I"⟩
abbrev cX10_back : ByteArray := prog_1_method_28_code
def yX10_back : MethodName := ⟨RX10, "back", "()I"⟩
abbrev cX10_count : ByteArray := prog_1_method_29_code
def yX10_count : MethodName := ⟨RX10, "count", "(I)I"⟩
abbrev cX10_layText : ByteArray := prog_1_method_30_code
def yX10_layText : MethodName := ⟨RX10, "layText", "()Z"⟩
abbrev cX10_wouldHelp : ByteArray := prog_1_method_31_code
def yX10_wouldHelp : MethodName := ⟨RX10, "wouldHelp", "(IIII)Z"⟩
abbrev cX10_areTwo : ByteArray := prog_1_method_32_code
def yX10_areTwo : MethodName := ⟨RX10, "areTwo", "(II)Z"⟩
abbrev cX10_draw : ByteArray := prog_1_method_33_code
def yX10_draw : MethodName := ⟨RX10, "draw", "(II)I"⟩
abbrev cX10_isWood : ByteArray := prog_1_method_34_code
def yX10_isWood : MethodName := ⟨RX10, "isWood", "(I)Z"⟩
abbrev cX10_within : ByteArray := prog_1_method_35_code
def yX10_within : MethodName := ⟨RX10, "within", "(III)Z"⟩
def RX11 : String := "EmberTaleModel"
def TX11 : u_T := fun k => match k with
  | 0 => ("EmberTaleModel", "camp", "[I", true)
  | 1 => ("EmberTaleModel", "read", "[I", true)
  | 2 => ("EmberTaleModel", "now", "[I", true)
  | 3 => ("EmberTaleModel", "aside", "[I", true)
  | 4 => ("EmberTaleModel", "past", "[I", true)
  | 5 => ("EmberTaleModel", "undos", "I", false)
  | 6 => ("EmberTaleModel", "kept", "[I", true)
  | 7 => ("EmberTaleModel", "keptMany", "I", false)
  | 8 => ("EmberTaleModel", "sights", "[I", true)
  | 9 => ("EmberTaleModel", "sightMany", "I", false)
  | 10 => ("EmberTaleModel", "text", "[I", true)
  | 11 => ("EmberTaleModel", "size", "I", false)
  | 12 => ("EmberTaleModel", "at", "I", false)
  | 13 => ("EmberTaleModel", "value", "I", false)
  | 14 => ("EmberTaleModel", "row", "[I", true)
  | 15 => ("EmberTaleModel", "best", "[I", true)
  | 16 => ("EmberTaleModel", "logs", "[I", true)
  | 17 => ("EmberTaleModel", "wave", "[I", true)
  | 18 => ("EmberTaleModel", "by", "[I", true)
  | 19 => ("EmberTaleModel", "whence", "[I", true)
  | 20 => ("EmberTaleModel", "way", "[I", true)
  | 21 => ("EmberTaleModel", "ways", "[I", true)
  | _ => ("EmberTaleModel", "then", "[I", true)
def tyX11 : Nat → FieldType := fun k => match k with
  | 0 => .array .int
  | 1 => .array .int
  | 2 => .array .int
  | 3 => .array .int
  | 4 => .array .int
  | 5 => .int
  | 6 => .array .int
  | 7 => .int
  | 8 => .array .int
  | 9 => .int
  | 10 => .array .int
  | 11 => .int
  | 12 => .int
  | 13 => .int
  | 14 => .array .int
  | 15 => .array .int
  | 16 => .array .int
  | 17 => .array .int
  | 18 => .array .int
  | 19 => .array .int
  | 20 => .array .int
  | 21 => .array .int
  | _ => .array .int
abbrev wsX110 : List Cond := u_ws RX11 TX11 23
theorem nmX11 : ∀ a, a < 23 → ∀ b, b < 23 → a ≠ b → (TX11 a).2.1 ≠ (TX11 b).2.1 := by decide +kernel
theorem tyX11_ok : ∀ k, k < 23 → parseFieldDescriptor (TX11 k).2.2.1 = some (tyX11 k) := by decide +kernel
abbrev cX11_init : ByteArray := prog_13_method_1_code
def yX11_init : MethodName := ⟨RX11, "<init>", "()V"⟩
abbrev cX11_in : ByteArray := prog_13_method_3_code
def yX11_in : MethodName := ⟨RX11, "in", "(JJJ)Z"⟩
abbrev cX11_has : ByteArray := prog_13_method_4_code
def yX11_has : MethodName := ⟨RX11, "has", "(II)Z"⟩
abbrev cX11_copies : ByteArray := prog_13_method_5_code
def yX11_copies : MethodName := ⟨RX11, "copies", "([II[III)V"⟩
abbrev cX11_line : ByteArray := prog_13_method_6_code
def yX11_line : MethodName := ⟨RX11, "line", "([II)V"⟩
abbrev cX11_company : ByteArray := prog_13_method_7_code
def yX11_company : MethodName := ⟨RX11, "company", "([IIII)V"⟩
abbrev cX11_begins : ByteArray := prog_13_method_8_code
def yX11_begins : MethodName := ⟨RX11, "begins", "()V"⟩
abbrev cX11_write : ByteArray := prog_13_method_9_code
def yX11_write : MethodName := ⟨RX11, "write", "(I)I"⟩
abbrev cX11_wipe : ByteArray := prog_13_method_10_code
def yX11_wipe : MethodName := ⟨RX11, "wipe", "()I"⟩
abbrev cX11_here : ByteArray := prog_13_method_11_code
def yX11_here : MethodName := ⟨RX11, "here", "()I"⟩
abbrev cX11_takes : ByteArray := prog_13_method_12_code
def yX11_takes : MethodName := ⟨RX11, "takes", "(I)Z"⟩
abbrev cX11_isFigure : ByteArray := prog_13_method_13_code
def yX11_isFigure : MethodName := ⟨RX11, "isFigure", "(I)Z"⟩
abbrev cX11_number : ByteArray := prog_13_method_14_code
def yX11_number : MethodName := ⟨RX11, "number", "(II)Z"⟩
abbrev cX11_readsLine : ByteArray := prog_13_method_15_code
def yX11_readsLine : MethodName := ⟨RX11, "readsLine", "()Z"⟩
abbrev cX11_readsRain : ByteArray := prog_13_method_16_code
def yX11_readsRain : MethodName := ⟨RX11, "readsRain", "()Z"⟩
abbrev cX11_readsCompany : ByteArray := prog_13_method_17_code
def yX11_readsCompany : MethodName := ⟨RX11, "readsCompany", "()Z"⟩
abbrev cX11_readsItem : ByteArray := prog_13_method_18_code
def yX11_readsItem : MethodName := ⟨RX11, "readsItem", "()Z"⟩
abbrev cX11_reads : ByteArray := prog_13_method_19_code
def yX11_reads : MethodName := ⟨RX11, "reads", "()I"⟩
abbrev cX11_fault : ByteArray := prog_13_method_20_code
def yX11_fault : MethodName := ⟨RX11, "fault", "()I"⟩
abbrev cX11_areTold : ByteArray := prog_13_method_21_code
def yX11_areTold : MethodName := ⟨RX11, "areTold", "()Z"⟩
abbrev cX11_lay : ByteArray := prog_13_method_22_code
def yX11_lay : MethodName := ⟨RX11, "lay", "()I"⟩
abbrev cX11_isLine : ByteArray := prog_13_method_23_code
def yX11_isLine : MethodName := ⟨RX11, "isLine", "(I)Z"⟩
abbrev cX11_isWood : ByteArray := prog_13_method_24_code
def yX11_isWood : MethodName := ⟨RX11, "isWood", "(I)Z"⟩
abbrev cX11_isCompany : ByteArray := prog_13_method_25_code
def yX11_isCompany : MethodName := ⟨RX11, "isCompany", "(I)Z"⟩
abbrev cX11_behind : ByteArray := prog_13_method_26_code
def yX11_behind : MethodName := ⟨RX11, "behind", "(II)I"⟩
abbrev cX11_goes : ByteArray := prog_13_method_27_code
def yX11_goes : MethodName := ⟨RX11, "goes", "(II)I"⟩
abbrev cX11_rainAt : ByteArray := prog_13_method_28_code
def yX11_rainAt : MethodName := ⟨RX11, "rainAt", "(I)I"⟩
abbrev cX11_line_ : ByteArray := prog_13_method_29_code
def yX11_line_ : MethodName := ⟨RX11, "line", "(II)I"⟩
abbrev cX11_rain : ByteArray := prog_13_method_30_code
def yX11_rain : MethodName := ⟨RX11, "rain", "(I)I"⟩
abbrev cX11_company_ : ByteArray := prog_13_method_31_code
def yX11_company_ : MethodName := ⟨RX11, "company", "(II)I"⟩
abbrev cX11_hotter : ByteArray := prog_13_method_32_code
def yX11_hotter : MethodName := ⟨RX11, "hotter", "(II)I"⟩
abbrev cX11_cooler : ByteArray := prog_13_method_33_code
def yX11_cooler : MethodName := ⟨RX11, "cooler", "(III)I"⟩
abbrev cX11_isIn : ByteArray := prog_13_method_34_code
def yX11_isIn : MethodName := ⟨RX11, "isIn", "(I)Z"⟩
abbrev cX11_goesOut : ByteArray := prog_13_method_35_code
def yX11_goesOut : MethodName := ⟨RX11, "goesOut", "([II)V"⟩
abbrev cX11_mayPut : ByteArray := prog_13_method_36_code
def yX11_mayPut : MethodName := ⟨RX11, "mayPut", "([III)Z"⟩
abbrev cX11_puts : ByteArray := prog_13_method_37_code
def yX11_puts : MethodName := ⟨RX11, "puts", "([III)V"⟩
abbrev cX11_hourGoes : ByteArray := prog_13_method_38_code
def yX11_hourGoes : MethodName := ⟨RX11, "hourGoes", "([I)V"⟩
abbrev cX11_insOf : ByteArray := prog_13_method_39_code
def yX11_insOf : MethodName := ⟨RX11, "insOf", "([I)I"⟩
abbrev cX11_remember : ByteArray := prog_13_method_40_code
def yX11_remember : MethodName := ⟨RX11, "remember", "()V"⟩
abbrev cX11_put : ByteArray := prog_13_method_41_code
def yX11_put : MethodName := ⟨RX11, "put", "(II)I"⟩
abbrev cX11_pass : ByteArray := prog_13_method_42_code
def yX11_pass : MethodName := ⟨RX11, "pass", "(I)I"⟩
abbrev cX11_mayLight : ByteArray := prog_13_method_43_code
def yX11_mayLight : MethodName := ⟨RX11, "mayLight", "([III)Z"⟩
abbrev cX11_lights : ByteArray := prog_13_method_44_code
def yX11_lights : MethodName := ⟨RX11, "lights", "([III)V"⟩
abbrev cX11_light : ByteArray := prog_13_method_45_code
def yX11_light : MethodName := ⟨RX11, "light", "(II)I"⟩
abbrev cX11_join : ByteArray := prog_13_method_46_code
def yX11_join : MethodName := ⟨RX11, "join", "(II)I"⟩
abbrev cX11_mayHand : ByteArray := prog_13_method_47_code
def yX11_mayHand : MethodName := ⟨RX11, "mayHand", "(III)Z"⟩
abbrev cX11_hand : ByteArray := prog_13_method_48_code
def yX11_hand : MethodName := ⟨RX11, "hand", "(III)I"⟩
abbrev cX11_undo : ByteArray := prog_13_method_49_code
def yX11_undo : MethodName := ⟨RX11, "undo", "()I"⟩
abbrev cX11_lasts : ByteArray := prog_13_method_50_code
def yX11_lasts : MethodName := ⟨RX11, "lasts", "(I)I"⟩
abbrev cX11_layLogs : ByteArray := prog_13_method_51_code
def yX11_layLogs : MethodName := ⟨RX11, "layLogs", "(I)V"⟩
abbrev cX11_keptBy : ByteArray := prog_13_method_52_code
def yX11_keptBy : MethodName := ⟨RX11, "keptBy", "(III)I"⟩
abbrev cX11_giveBack : ByteArray := prog_13_method_53_code
def yX11_giveBack : MethodName := ⟨RX11, "giveBack", "(I)I"⟩
abbrev cX11_keeps : ByteArray := prog_13_method_54_code
def yX11_keeps : MethodName := ⟨RX11, "keeps", "(II)I"⟩
abbrev cX11_stays : ByteArray := prog_13_method_55_code
def yX11_stays : MethodName := ⟨RX11, "stays", "(III)I"⟩
abbrev cX11_tellsBy : ByteArray := prog_13_method_56_code
def yX11_tellsBy : MethodName := ⟨RX11, "tellsBy", "(III)Z"⟩
abbrev cX11_tellsFor : ByteArray := prog_13_method_57_code
def yX11_tellsFor : MethodName := ⟨RX11, "tellsFor", "(II)I"⟩
abbrev cX11_tell : ByteArray := prog_13_method_58_code
def yX11_tell : MethodName := ⟨RX11, "tell", "(III)I"⟩
abbrev cX11_meets : ByteArray := prog_13_method_59_code
def yX11_meets : MethodName := ⟨RX11, "meets", "(II)I"⟩
abbrev cX11_laysWay : ByteArray := prog_13_method_60_code
def yX11_laysWay : MethodName := ⟨RX11, "laysWay", "(I)I"⟩
abbrev cX11_meet : ByteArray := prog_13_method_61_code
def yX11_meet : MethodName := ⟨RX11, "meet", "(III)I"⟩
abbrev cX11_can : ByteArray := prog_13_method_62_code
def yX11_can : MethodName := ⟨RX11, "can", "(I)I"⟩
abbrev cX11_isKeptWith : ByteArray := prog_13_method_63_code
def yX11_isKeptWith : MethodName := ⟨RX11, "isKeptWith", "(IIII)Z"⟩
abbrev cX11_give : ByteArray := prog_13_method_64_code
def yX11_give : MethodName := ⟨RX11, "give", "(III)I"⟩
abbrev cX11_see : ByteArray := prog_13_method_65_code
def yX11_see : MethodName := ⟨RX11, "see", "(I)I"⟩
abbrev cX11_forget : ByteArray := prog_13_method_66_code
def yX11_forget : MethodName := ⟨RX11, "forget", "()I"⟩
abbrev cX11_from : ByteArray := prog_13_method_67_code
def yX11_from : MethodName := ⟨RX11, "from", "(I)I"⟩
abbrev cX11_rows : ByteArray := prog_13_method_68_code
def yX11_rows : MethodName := ⟨RX11, "rows", "(III)I"⟩
abbrev cX11_lowest : ByteArray := prog_13_method_69_code
def yX11_lowest : MethodName := ⟨RX11, "lowest", "(JJI)I"⟩
abbrev cX11_rains : ByteArray := prog_13_method_70_code
def yX11_rains : MethodName := ⟨RX11, "rains", "(IIII)I"⟩
abbrev cX11_toldIn : ByteArray := prog_13_method_71_code
def yX11_toldIn : MethodName := ⟨RX11, "toldIn", "([I)I"⟩
abbrev cX11_winter : ByteArray := prog_13_method_72_code
def yX11_winter : MethodName := ⟨RX11, "winter", "(III)I"⟩
abbrev cX11_keep : ByteArray := prog_13_method_73_code
def yX11_keep : MethodName := ⟨RX11, "keep", "()I"⟩
abbrev cX11_back : ByteArray := prog_13_method_74_code
def yX11_back : MethodName := ⟨RX11, "back", "()I"⟩
abbrev cX11_logsOfAll : ByteArray := prog_13_method_75_code
def yX11_logsOfAll : MethodName := ⟨RX11, "logsOfAll", "()I"⟩
abbrev cX11_count : ByteArray := prog_13_method_76_code
def yX11_count : MethodName := ⟨RX11, "count", "(I)I"⟩
def RJ9 : String := "java/lang/Math"
abbrev cJ9_floorMod_7cf53 : ByteArray := prog_14_method_50_code
def yJ9_floorMod_7cf53 : MethodName := ⟨RJ9, "floorMod", "(II)I"⟩
abbrev cJ9_max_7cf53 : ByteArray := prog_14_method_65_code
def yJ9_max_7cf53 : MethodName := ⟨RJ9, "max", "(II)I"⟩
abbrev cJ9_min_7cf53 : ByteArray := prog_14_method_69_code
def yJ9_min_7cf53 : MethodName := ⟨RJ9, "min", "(II)I"⟩
def RJ0 : String := "java/lang/String"
abbrev cJ0_length_8abf5 : ByteArray := prog_15_method_54_code
def yJ0_length_8abf5 : MethodName := ⟨RJ0, "length", "()I"⟩
abbrev cJ0_charAt_5068e : ByteArray := prog_15_method_56_code
def yJ0_charAt_5068e : MethodName := ⟨RJ0, "charAt", "(I)C"⟩
abbrev cJ0_coder_7d493 : ByteArray := prog_15_method_152_code
def yJ0_coder_7d493 : MethodName := ⟨RJ0, "coder", "()B"⟩
abbrev cJ0_isLatin1_aae02 : ByteArray := prog_15_method_154_code
def yJ0_isLatin1_aae02 : MethodName := ⟨RJ0, "isLatin1", "()Z"⟩
abbrev cJ0_checkIndex_df160 : ByteArray := prog_15_method_155_code
def yJ0_checkIndex_df160 : MethodName := ⟨RJ0, "checkIndex", "(II)V"⟩
def RJ1 : String := "java/lang/StringLatin1"
abbrev cJ1_charAt_3b067 : ByteArray := prog_16_method_2_code
def yJ1_charAt_3b067 : MethodName := ⟨RJ1, "charAt", "([BI)C"⟩
def RJ2 : String := "java/lang/StringUTF16"
abbrev cJ2_getChar_3b067 : ByteArray := prog_17_method_5_code
def yJ2_getChar_3b067 : MethodName := ⟨RJ2, "getChar", "([BI)C"⟩
abbrev cJ2_length_9d52b : ByteArray := prog_17_method_6_code
def yJ2_length_9d52b : MethodName := ⟨RJ2, "length", "([B)I"⟩
abbrev cJ2_charAt_3b067 : ByteArray := prog_17_method_83_code
def yJ2_charAt_3b067 : MethodName := ⟨RJ2, "charAt", "([BI)C"⟩
abbrev cJ2_checkIndex_2214a : ByteArray := prog_17_method_91_code
def yJ2_checkIndex_2214a : MethodName := ⟨RJ2, "checkIndex", "(I[B)V"⟩
def RJ3 : String := "jdk/internal/util/Preconditions"
abbrev cJ3_checkIndex_8e157 : ByteArray := prog_18_method_11_code
def yJ3_checkIndex_8e157 : MethodName := ⟨RJ3, "checkIndex", "(IILjava/util/function/BiFunction;)I"⟩
def RL : String := "EmberTaleLaw"
def wsL_law_r1 : List Cond := [Cond.classLink RL 7 RX10, Cond.instantiable RX10 12, Cond.initialized RX10, Cond.classLink RL 10 RX11, Cond.instantiable RX11 23, Cond.initialized RX11, Cond.methodLink RL 9 yX10_init, Cond.instanceMethod yX10_init, Cond.code yX10_init cX10_init 2 none, Cond.methodLink RX10 1 objectInit, Cond.instanceMethod objectInit, Cond.code objectInit ⟨#[0xb1]⟩ 1 none, Cond.classLink RX10 7 RX6, Cond.instantiable RX6 2, Cond.initialized RX6, Cond.fieldLink RX10 14 "EmberTale" "text" "LEmberTale$Row;", Cond.fieldLink RX10 18 "EmberTale" "seen" "LEmberTale$Row;", Cond.classLink RX10 21 RX8, Cond.instantiable RX8 5, Cond.initialized RX8, Cond.fieldLink RX10 24 "EmberTale" "tale" "LEmberTale$Tale;", Cond.classLink RX10 28 RX0, Cond.instantiable RX0 3, Cond.initialized RX0]
def wsL_law_r2 : List Cond := [Cond.fieldLink RX10 33 "EmberTale" "camp" "LEmberTale$Camp;", Cond.fieldLink RX10 37 "EmberTale" "trial" "LEmberTale$Camp;", Cond.classLink RX10 40 RX7, Cond.instantiable RX7 3, Cond.initialized RX7, Cond.fieldLink RX10 45 "EmberTale" "past" "LEmberTale$Shelf;", Cond.fieldLink RX10 49 "EmberTale" "kept" "LEmberTale$Shelf;", Cond.classLink RX10 52 RX5, Cond.instantiable RX5 5, Cond.initialized RX5, Cond.fieldLink RX10 57 "EmberTale" "reader" "LEmberTale$Reader;", Cond.classLink RX10 61 RX3, Cond.instantiable RX3 5, Cond.initialized RX3, Cond.fieldLink RX10 64 "EmberTale" "keeper" "LEmberTale$Keeper;", Cond.classLink RX10 68 RX9, Cond.instantiable RX9 5, Cond.initialized RX9, Cond.fieldLink RX10 71 "EmberTale" "teller" "LEmberTale$Teller;", Cond.classLink RX10 75 RX4, Cond.instantiable RX4 6, Cond.initialized RX4, Cond.fieldLink RX10 78 "EmberTale" "meeter" "LEmberTale$Meeter;", Cond.classLink RX10 82 RX1]
def wsL_law_r3 : List Cond := [Cond.instantiable RX1 3, Cond.initialized RX1, Cond.fieldLink RX10 85 "EmberTale" "chance" "LEmberTale$Chance;", Cond.methodLink RX10 11 yX6_init, Cond.instanceMethod yX6_init, Cond.code yX6_init cX6_init 2 none, Cond.methodLink RX6 3 objectInit, Cond.methodLink RX6 9 Lib.Math.max.name, Cond.static Lib.Math.max.name, Cond.initialized "java/lang/Math", Cond.code Lib.Math.max.name Lib.Math.max.code 2 (some .int), Cond.arrayClass .int, Cond.fieldLink RX6 15 "EmberTale$Row" "cells" "[I", Cond.instanceMethod yX8_init, Cond.code yX8_init cX8_init 1 none, Cond.methodLink RX8 3 objectInit, Cond.classLink RX8 9 RX6, Cond.fieldLink RX8 14 "EmberTale$Tale" "next" "LEmberTale$Row;", Cond.fieldLink RX8 20 "EmberTale$Tale" "rainfall" "LEmberTale$Row;", Cond.fieldLink RX8 23 "EmberTale$Tale" "ways" "LEmberTale$Row;", Cond.fieldLink RX8 26 "EmberTale$Tale" "waysBehind" "LEmberTale$Row;", Cond.methodLink RX8 11 yX6_init, Cond.methodLink RX10 30 yX0_init, Cond.instanceMethod yX0_init]
def wsL_law_r4 : List Cond := [Cond.code yX0_init cX0_init 2 none, Cond.methodLink RX0 3 objectInit, Cond.classLink RX0 9 RX6, Cond.fieldLink RX0 16 "EmberTale$Camp" "numbers" "LEmberTale$Row;", Cond.fieldLink RX0 20 "EmberTale$Camp" "tale" "LEmberTale$Tale;", Cond.methodLink RX0 13 yX6_init, Cond.methodLink RX10 42 yX7_init, Cond.instanceMethod yX7_init, Cond.code yX7_init cX7_init 4 none, Cond.methodLink RX7 1 objectInit, Cond.methodLink RX7 7 Lib.Math.max.name, Cond.classLink RX7 13 RX0, Cond.fieldLink RX7 15 "EmberTale$Shelf" "camps" "[LEmberTale$Camp;", Cond.methodLink RX7 21 yX0_init, Cond.methodLink RX10 54 yX5_init, Cond.instanceMethod yX5_init, Cond.code yX5_init cX5_init 2 none, Cond.methodLink RX5 3 objectInit, Cond.classLink RX5 9 RX6, Cond.fieldLink RX5 16 "EmberTale$Reader" "numbers" "LEmberTale$Row;", Cond.classLink RX5 20 RX8, Cond.fieldLink RX5 23 "EmberTale$Reader" "tale" "LEmberTale$Tale;", Cond.classLink RX5 27 RX0, Cond.fieldLink RX5 32 "EmberTale$Reader" "camp" "LEmberTale$Camp;"]
def wsL_law_r5 : List Cond := [Cond.fieldLink RX5 36 "EmberTale$Reader" "text" "LEmberTale$Row;", Cond.methodLink RX5 13 yX6_init, Cond.methodLink RX5 29 yX0_init, Cond.methodLink RX10 63 yX3_init, Cond.instanceMethod yX3_init, Cond.code yX3_init cX3_init 2 none, Cond.methodLink RX3 3 objectInit, Cond.classLink RX3 9 RX6, Cond.fieldLink RX3 14 "EmberTale$Keeper" "logs" "LEmberTale$Row;", Cond.fieldLink RX3 20 "EmberTale$Keeper" "way" "LEmberTale$Row;", Cond.fieldLink RX3 23 "EmberTale$Keeper" "tale" "LEmberTale$Tale;", Cond.methodLink RX3 11 yX6_init, Cond.methodLink RX10 70 yX9_init, Cond.instanceMethod yX9_init, Cond.code yX9_init cX9_init 2 none, Cond.methodLink RX9 3 objectInit, Cond.classLink RX9 9 RX6, Cond.fieldLink RX9 14 "EmberTale$Teller" "logs" "LEmberTale$Row;", Cond.fieldLink RX9 20 "EmberTale$Teller" "way" "LEmberTale$Row;", Cond.fieldLink RX9 23 "EmberTale$Teller" "tale" "LEmberTale$Tale;", Cond.methodLink RX9 11 yX6_init, Cond.methodLink RX10 77 yX4_init, Cond.instanceMethod yX4_init, Cond.code yX4_init cX4_init 2 none]
def wsL_law_r6 : List Cond := [Cond.methodLink RX4 3 objectInit, Cond.classLink RX4 9 RX6, Cond.fieldLink RX4 16 "EmberTale$Meeter" "pairs" "LEmberTale$Row;", Cond.fieldLink RX4 20 "EmberTale$Meeter" "pairAhead" "LEmberTale$Row;", Cond.fieldLink RX4 23 "EmberTale$Meeter" "woodBy" "LEmberTale$Row;", Cond.fieldLink RX4 26 "EmberTale$Meeter" "found" "LEmberTale$Row;", Cond.fieldLink RX4 29 "EmberTale$Meeter" "wayBackwards" "LEmberTale$Row;", Cond.fieldLink RX4 32 "EmberTale$Meeter" "tale" "LEmberTale$Tale;", Cond.methodLink RX4 13 yX6_init, Cond.methodLink RX10 84 yX1_init, Cond.instanceMethod yX1_init, Cond.code yX1_init cX1_init 2 none, Cond.methodLink RX1 3 objectInit, Cond.classLink RX1 9 RX6, Cond.fieldLink RX1 14 "EmberTale$Chance" "ways" "LEmberTale$Row;", Cond.fieldLink RX1 20 "EmberTale$Chance" "waysBehind" "LEmberTale$Row;", Cond.fieldLink RX1 23 "EmberTale$Chance" "tale" "LEmberTale$Tale;", Cond.methodLink RX1 11 yX6_init, Cond.methodLink RX10 91 yJ0_length_8abf5, Cond.instanceMethod yJ0_length_8abf5, Cond.selects RJ0 yJ0_length_8abf5 yJ0_length_8abf5, Cond.initialized RJ0, Cond.code yJ0_length_8abf5 cJ0_length_8abf5 1 (some .int), Cond.fieldLink RJ0 9 "java/lang/String" "value" "[B"]
def wsL_law_r7 : List Cond := [Cond.methodLink RJ0 335 yJ0_coder_7d493, Cond.instanceMethod yJ0_coder_7d493, Cond.selects RJ0 yJ0_coder_7d493 yJ0_coder_7d493, Cond.code yJ0_coder_7d493 cJ0_coder_7d493 1 (some .byte), Cond.fieldLink RJ0 38 "java/lang/String" "COMPACT_STRINGS" "Z", Cond.fieldLink RJ0 15 "java/lang/String" "coder" "B", Cond.methodLink RX10 97 yJ0_charAt_5068e, Cond.instanceMethod yJ0_charAt_5068e, Cond.selects RJ0 yJ0_charAt_5068e yJ0_charAt_5068e, Cond.code yJ0_charAt_5068e cJ0_charAt_5068e 2 (some .char), Cond.methodLink RJ0 492 yJ0_isLatin1_aae02, Cond.instanceMethod yJ0_isLatin1_aae02, Cond.selects RJ0 yJ0_isLatin1_aae02 yJ0_isLatin1_aae02, Cond.code yJ0_isLatin1_aae02 cJ0_isLatin1_aae02 1 (some .boolean), Cond.methodLink RJ0 495 yJ1_charAt_3b067, Cond.static yJ1_charAt_3b067, Cond.initialized RJ1, Cond.code yJ1_charAt_3b067 cJ1_charAt_3b067 2 (some .char), Cond.methodLink RJ1 9 yJ0_checkIndex_df160, Cond.static yJ0_checkIndex_df160, Cond.code yJ0_checkIndex_df160 cJ0_checkIndex_df160 2 none, Cond.fieldLink RJ0 1053 "jdk/internal/util/Preconditions" "SIOOBE_FORMATTER" "Ljava/util/function/BiFunction;", Cond.methodLink RJ0 1059 yJ3_checkIndex_8e157, Cond.static yJ3_checkIndex_8e157]
def wsL_law_r8 : List Cond := [Cond.initialized RJ3, Cond.code yJ3_checkIndex_8e157 cJ3_checkIndex_8e157 3 (some .int), Cond.methodLink RJ0 498 yJ2_charAt_3b067, Cond.static yJ2_charAt_3b067, Cond.initialized RJ2, Cond.code yJ2_charAt_3b067 cJ2_charAt_3b067 2 (some .char), Cond.methodLink RJ2 67 yJ2_checkIndex_2214a, Cond.static yJ2_checkIndex_2214a, Cond.code yJ2_checkIndex_2214a cJ2_checkIndex_2214a 2 none, Cond.methodLink RJ2 48 yJ2_length_9d52b, Cond.static yJ2_length_9d52b, Cond.code yJ2_length_9d52b cJ2_length_9d52b 1 (some .int), Cond.methodLink RJ2 414 yJ0_checkIndex_df160, Cond.methodLink RJ2 71 yJ2_getChar_3b067, Cond.static yJ2_getChar_3b067, Cond.code yJ2_getChar_3b067 cJ2_getChar_3b067 2 (some .char), Cond.fieldLink RJ2 44 "java/lang/StringUTF16" "$assertionsDisabled" "Z", Cond.fieldLink RJ2 59 "java/lang/StringUTF16" "HI_BYTE_SHIFT" "I", Cond.fieldLink RJ2 63 "java/lang/StringUTF16" "LO_BYTE_SHIFT" "I", Cond.methodLink RX10 101 yX6_add, Cond.instanceMethod yX6_add, Cond.selects RX6 yX6_add yX6_add, Cond.code yX6_add cX6_add 2 none, Cond.fieldLink RX6 21 "EmberTale$Row" "size" "I"]
def wsL_law_r9 : List Cond := [Cond.methodLink RX10 104 yX10_layText, Cond.instanceMethod yX10_layText, Cond.selects RX10 yX10_layText yX10_layText, Cond.code yX10_layText cX10_layText 1 (some .boolean), Cond.methodLink RX10 121 yX5_firstFault, Cond.instanceMethod yX5_firstFault, Cond.selects RX5 yX5_firstFault yX5_firstFault, Cond.code yX5_firstFault cX5_firstFault 3 (some .int), Cond.fieldLink RX5 51 "EmberTale$Reader" "place" "I", Cond.methodLink RX5 47 yX8_clear, Cond.instanceMethod yX8_clear, Cond.selects RX8 yX8_clear yX8_clear, Cond.code yX8_clear cX8_clear 1 none, Cond.fieldLink RX8 29 "EmberTale$Tale" "lines" "I", Cond.methodLink RX8 33 yX6_clear, Cond.instanceMethod yX6_clear, Cond.selects RX6 yX6_clear yX6_clear, Cond.code yX6_clear cX6_clear 1 none, Cond.methodLink RX5 50 yX0_clear, Cond.instanceMethod yX0_clear, Cond.selects RX0 yX0_clear yX0_clear, Cond.code yX0_clear cX0_clear 1 none, Cond.fieldLink RX0 27 "EmberTale$Camp" "hours" "I", Cond.methodLink RX0 24 yX6_clear]
def wsL_law_r10 : List Cond := [Cond.methodLink RX5 55 yX6_size, Cond.instanceMethod yX6_size, Cond.selects RX6 yX6_size yX6_size, Cond.code yX6_size cX6_size 1 (some .int), Cond.methodLink RX5 58 yX5_readItem, Cond.instanceMethod yX5_readItem, Cond.selects RX5 yX5_readItem yX5_readItem, Cond.code yX5_readItem cX5_readItem 1 (some .boolean), Cond.methodLink RX5 61 yX5_take, Cond.instanceMethod yX5_take, Cond.selects RX5 yX5_take yX5_take, Cond.code yX5_take cX5_take 2 (some .int), Cond.methodLink RX5 75 yX6_get, Cond.instanceMethod yX6_get, Cond.selects RX6 yX6_get yX6_get, Cond.code yX6_get cX6_get 2 (some .int), Cond.methodLink RX5 64 yX5_readFigures, Cond.instanceMethod yX5_readFigures, Cond.selects RX5 yX5_readFigures yX5_readFigures, Cond.code yX5_readFigures cX5_readFigures 4 (some .boolean), Cond.methodLink RX5 85 yX6_clear, Cond.methodLink RX5 86 yX5_figureOf, Cond.static yX5_figureOf, Cond.code yX5_figureOf cX5_figureOf 1 (some .int)]
def wsL_law_r11 : List Cond := [Cond.methodLink RX5 89 yX6_add, Cond.methodLink RX5 68 yX8_addLine, Cond.instanceMethod yX8_addLine, Cond.selects RX8 yX8_addLine yX8_addLine, Cond.code yX8_addLine cX8_addLine 3 (some .boolean), Cond.methodLink RX8 40 yX6_isFull, Cond.instanceMethod yX6_isFull, Cond.selects RX6 yX6_isFull yX6_isFull, Cond.code yX6_isFull cX6_isFull 1 (some .boolean), Cond.methodLink RX8 44 yX6_get, Cond.methodLink RX8 48 yX6_add, Cond.methodLink RX5 72 yX5_readNumbers, Cond.instanceMethod yX5_readNumbers, Cond.selects RX5 yX5_readNumbers yX5_readNumbers, Cond.code yX5_readNumbers cX5_readNumbers 5 (some .boolean), Cond.methodLink RX5 92 yX5_readNumber, Cond.instanceMethod yX5_readNumber, Cond.selects RX5 yX5_readNumber yX5_readNumber, Cond.code yX5_readNumber cX5_readNumber 3 (some .int), Cond.methodLink RX5 79 yX8_addRain, Cond.instanceMethod yX8_addRain, Cond.selects RX8 yX8_addRain yX8_addRain, Cond.code yX8_addRain cX8_addRain 2 (some .boolean), Cond.static yX10_within]
def wsL_law_r12 : List Cond := [Cond.code yX10_within cX10_within 3 (some .boolean), Cond.methodLink RX5 82 yX0_addCompany, Cond.instanceMethod yX0_addCompany, Cond.selects RX0 yX0_addCompany yX0_addCompany, Cond.code yX0_addCompany cX0_addCompany 3 (some .boolean), Cond.methodLink RX0 35 yX6_isFull, Cond.methodLink RX0 39 yX6_get, Cond.methodLink RX0 43 yX8_isLine, Cond.instanceMethod yX8_isLine, Cond.selects RX8 yX8_isLine yX8_isLine, Cond.code yX8_isLine cX8_isLine 2 (some .boolean), Cond.methodLink RX0 53 yX6_add, Cond.methodLink RX10 253 yX5_readAWhole, Cond.instanceMethod yX5_readAWhole, Cond.selects RX5 yX5_readAWhole yX5_readAWhole, Cond.code yX5_readAWhole cX5_readAWhole 1 (some .boolean), Cond.methodLink RX5 39 yX0_companies, Cond.instanceMethod yX0_companies, Cond.selects RX0 yX0_companies yX0_companies, Cond.code yX0_companies cX0_companies 1 (some .int), Cond.methodLink RX0 56 yX6_size, Cond.methodLink RX5 43 yX8_tellsAllItNames, Cond.instanceMethod yX8_tellsAllItNames, Cond.selects RX8 yX8_tellsAllItNames yX8_tellsAllItNames]
def wsL_law_r13 : List Cond := [Cond.code yX8_tellsAllItNames cX8_tellsAllItNames 3 (some .boolean), Cond.methodLink RX8 55 yX6_size, Cond.methodLink RX8 59 yX8_isLine, Cond.methodLink RX10 256 yX5_tale, Cond.instanceMethod yX5_tale, Cond.selects RX5 yX5_tale yX5_tale, Cond.code yX5_tale cX5_tale 1 (some (.object "EmberTale$Tale")), Cond.methodLink RX10 259 yX8_become, Cond.instanceMethod yX8_become, Cond.selects RX8 yX8_become yX8_become, Cond.code yX8_become cX8_become 2 none, Cond.methodLink RX8 36 yX6_become, Cond.instanceMethod yX6_become, Cond.selects RX6 yX6_become yX6_become, Cond.code yX6_become cX6_become 3 none, Cond.methodLink RX6 25 yX6_clear, Cond.methodLink RX6 28 yX6_size, Cond.methodLink RX6 31 yX6_get, Cond.methodLink RX6 35 yX6_add, Cond.methodLink RX10 261 yX5_camp, Cond.instanceMethod yX5_camp, Cond.selects RX5 yX5_camp yX5_camp, Cond.code yX5_camp cX5_camp 1 (some (.object "EmberTale$Camp")), Cond.methodLink RX10 233 yX0_become]
def wsL_law_r14 : List Cond := [Cond.instanceMethod yX0_become, Cond.selects RX0 yX0_become yX0_become, Cond.code yX0_become cX0_become 2 none, Cond.methodLink RX0 31 yX6_become, Cond.methodLink RX10 108 yX6_clear, Cond.methodLink RX10 246 yX7_clear, Cond.instanceMethod yX7_clear, Cond.selects RX7 yX7_clear yX7_clear, Cond.code yX7_clear cX7_clear 1 none, Cond.fieldLink RX7 24 "EmberTale$Shelf" "size" "I", Cond.methodLink RL 12 yX11_init, Cond.instanceMethod yX11_init, Cond.code yX11_init cX11_init 1 none, Cond.methodLink RX11 1 objectInit, Cond.fieldLink RX11 7 "EmberTaleModel" "camp" "[I", Cond.fieldLink RX11 13 "EmberTaleModel" "read" "[I", Cond.fieldLink RX11 16 "EmberTaleModel" "now" "[I", Cond.fieldLink RX11 19 "EmberTaleModel" "aside" "[I", Cond.fieldLink RX11 22 "EmberTaleModel" "past" "[I", Cond.fieldLink RX11 25 "EmberTaleModel" "kept" "[I", Cond.fieldLink RX11 28 "EmberTaleModel" "sights" "[I", Cond.fieldLink RX11 31 "EmberTaleModel" "text" "[I", Cond.fieldLink RX11 34 "EmberTaleModel" "row" "[I", Cond.fieldLink RX11 37 "EmberTaleModel" "best" "[I"]
def wsL_law_r15 : List Cond := [Cond.fieldLink RX11 40 "EmberTaleModel" "logs" "[I", Cond.fieldLink RX11 43 "EmberTaleModel" "wave" "[I", Cond.fieldLink RX11 46 "EmberTaleModel" "by" "[I", Cond.fieldLink RX11 49 "EmberTaleModel" "whence" "[I", Cond.fieldLink RX11 52 "EmberTaleModel" "way" "[I", Cond.fieldLink RX11 55 "EmberTaleModel" "ways" "[I", Cond.fieldLink RX11 58 "EmberTaleModel" "then" "[I", Cond.methodLink RX11 61 yX11_line, Cond.static yX11_line, Cond.code yX11_line cX11_line 4 none, Cond.methodLink RX11 65 yX11_company, Cond.static yX11_company, Cond.code yX11_company cX11_company 7 none, Cond.methodLink RX11 69 yX11_begins, Cond.instanceMethod yX11_begins, Cond.selects RX11 yX11_begins yX11_begins, Cond.code yX11_begins cX11_begins 4 none, Cond.fieldLink RX11 72 "EmberTaleModel" "undos" "I", Cond.fieldLink RX11 76 "EmberTaleModel" "keptMany" "I", Cond.fieldLink RX11 79 "EmberTaleModel" "sightMany" "I", Cond.methodLink RL 13 yX10_write, Cond.instanceMethod yX10_write, Cond.selects RX10 yX10_write yX10_write, Cond.code yX10_write cX10_write 2 (some .int)]
def wsL_law_r16 : List Cond := [Cond.methodLink RX10 111 yX10_within, Cond.methodLink RX10 115 yX6_isFull, Cond.methodLink RX10 118 yX6_size, Cond.methodLink RL 17 yX11_write, Cond.instanceMethod yX11_write, Cond.selects RX11 yX11_write yX11_write, Cond.code yX11_write cX11_write 2 (some .int), Cond.constantLong RX11 82 (32), Cond.constantLong RX11 84 (126), Cond.fieldLink RX11 90 "EmberTaleModel" "size" "I", Cond.methodLink RX11 86 yX11_in, Cond.static yX11_in, Cond.code yX11_in cX11_in 6 (some .boolean), Cond.methodLink RL 18 yX10_wipe, Cond.instanceMethod yX10_wipe, Cond.selects RX10 yX10_wipe yX10_wipe, Cond.code yX10_wipe cX10_wipe 2 (some .int), Cond.methodLink RL 22 yX11_wipe, Cond.instanceMethod yX11_wipe, Cond.selects RX11 yX11_wipe yX11_wipe, Cond.code yX11_wipe cX11_wipe 2 (some .int), Cond.methodLink RL 23 yX10_fault, Cond.instanceMethod yX10_fault, Cond.selects RX10 yX10_fault yX10_fault]
def wsL_law_r17 : List Cond := [Cond.code yX10_fault cX10_fault 1 (some .int), Cond.methodLink RL 26 yX11_fault, Cond.instanceMethod yX11_fault, Cond.selects RX11 yX11_fault yX11_fault, Cond.code yX11_fault cX11_fault 1 (some .int), Cond.methodLink RX11 131 yX11_reads, Cond.instanceMethod yX11_reads, Cond.selects RX11 yX11_reads yX11_reads, Cond.code yX11_reads cX11_reads 2 (some .int), Cond.fieldLink RX11 93 "EmberTaleModel" "at" "I", Cond.methodLink RX11 128 yX11_readsItem, Cond.instanceMethod yX11_readsItem, Cond.selects RX11 yX11_readsItem yX11_readsItem, Cond.code yX11_readsItem cX11_readsItem 2 (some .boolean), Cond.methodLink RX11 96 yX11_here, Cond.instanceMethod yX11_here, Cond.selects RX11 yX11_here yX11_here, Cond.code yX11_here cX11_here 1 (some .int), Cond.methodLink RX11 118 yX11_readsLine, Cond.instanceMethod yX11_readsLine, Cond.selects RX11 yX11_readsLine yX11_readsLine, Cond.code yX11_readsLine cX11_readsLine 3 (some .boolean), Cond.methodLink RX11 104 yX11_isFigure, Cond.static yX11_isFigure]
def wsL_law_r18 : List Cond := [Cond.code yX11_isFigure cX11_isFigure 1 (some .boolean), Cond.constantLong RX11 100 (48), Cond.constantLong RX11 102 (57), Cond.methodLink RX11 122 yX11_readsRain, Cond.instanceMethod yX11_readsRain, Cond.selects RX11 yX11_readsRain yX11_readsRain, Cond.code yX11_readsRain cX11_readsRain 1 (some .boolean), Cond.fieldLink RX11 108 "EmberTaleModel" "value" "I", Cond.methodLink RX11 111 yX11_number, Cond.instanceMethod yX11_number, Cond.selects RX11 yX11_number yX11_number, Cond.code yX11_number cX11_number 3 (some .boolean), Cond.methodLink RX11 125 yX11_readsCompany, Cond.instanceMethod yX11_readsCompany, Cond.selects RX11 yX11_readsCompany yX11_readsCompany, Cond.code yX11_readsCompany cX11_readsCompany 5 (some .boolean), Cond.methodLink RX11 115 yX11_takes, Cond.instanceMethod yX11_takes, Cond.selects RX11 yX11_takes yX11_takes, Cond.code yX11_takes cX11_takes 3 (some .boolean), Cond.methodLink RL 27 yX10_lay, Cond.instanceMethod yX10_lay, Cond.selects RX10 yX10_lay yX10_lay, Cond.code yX10_lay cX10_lay 1 (some .int)]
def wsL_law_r19 : List Cond := [Cond.methodLink RX10 124 yX0_companies, Cond.methodLink RL 30 yX11_lay, Cond.instanceMethod yX11_lay, Cond.selects RX11 yX11_lay yX11_lay, Cond.code yX11_lay cX11_lay 1 (some .int), Cond.methodLink RX11 134 yX11_areTold, Cond.instanceMethod yX11_areTold, Cond.selects RX11 yX11_areTold yX11_areTold, Cond.code yX11_areTold cX11_areTold 3 (some .boolean), Cond.methodLink RX11 137 yX11_copies, Cond.static yX11_copies, Cond.code yX11_copies cX11_copies 6 none, Cond.methodLink RL 31 yX10_line, Cond.instanceMethod yX10_line, Cond.selects RX10 yX10_line yX10_line, Cond.code yX10_line cX10_line 3 (some .int), Cond.methodLink RX10 127 yX8_isLine, Cond.methodLink RX10 131 yX10_isWood, Cond.static yX10_isWood, Cond.code yX10_isWood cX10_isWood 1 (some .boolean), Cond.methodLink RX10 134 yX8_behind, Cond.instanceMethod yX8_behind, Cond.selects RX8 yX8_behind yX8_behind, Cond.code yX8_behind cX8_behind 4 (some .int)]
def wsL_law_r20 : List Cond := [Cond.methodLink RL 35 yX11_line_, Cond.instanceMethod yX11_line_, Cond.selects RX11 yX11_line_ yX11_line_, Cond.code yX11_line_ cX11_line_ 3 (some .int), Cond.methodLink RX11 147 yX11_isLine, Cond.instanceMethod yX11_isLine, Cond.selects RX11 yX11_isLine yX11_isLine, Cond.code yX11_isLine cX11_isLine 2 (some .boolean), Cond.methodLink RX11 150 yX11_isWood, Cond.static yX11_isWood, Cond.code yX11_isWood cX11_isWood 1 (some .boolean), Cond.constantLong RX11 141 (3), Cond.methodLink RX11 143 yX11_behind, Cond.instanceMethod yX11_behind, Cond.selects RX11 yX11_behind yX11_behind, Cond.code yX11_behind cX11_behind 4 (some .int), Cond.methodLink RL 36 yX10_rain, Cond.instanceMethod yX10_rain, Cond.selects RX10 yX10_rain yX10_rain, Cond.code yX10_rain cX10_rain 2 (some .int), Cond.methodLink RX10 138 yX0_hours, Cond.instanceMethod yX0_hours, Cond.selects RX0 yX0_hours yX0_hours, Cond.code yX0_hours cX0_hours 1 (some .int)]
def wsL_law_r21 : List Cond := [Cond.methodLink RX10 141 yX8_rainAt, Cond.instanceMethod yX8_rainAt, Cond.selects RX8 yX8_rainAt yX8_rainAt, Cond.code yX8_rainAt cX8_rainAt 3 (some .int), Cond.methodLink RX8 70 yJ9_floorMod_7cf53, Cond.static yJ9_floorMod_7cf53, Cond.initialized RJ9, Cond.code yJ9_floorMod_7cf53 cJ9_floorMod_7cf53 3 (some .int), Cond.methodLink RL 39 yX11_rain, Cond.instanceMethod yX11_rain, Cond.selects RX11 yX11_rain yX11_rain, Cond.code yX11_rain cX11_rain 2 (some .int), Cond.constantLong RX11 153 (99), Cond.methodLink RX11 155 yX11_rainAt, Cond.instanceMethod yX11_rainAt, Cond.selects RX11 yX11_rainAt yX11_rainAt, Cond.code yX11_rainAt cX11_rainAt 2 (some .int), Cond.methodLink RL 40 yX10_company, Cond.instanceMethod yX10_company, Cond.selects RX10 yX10_company yX10_company, Cond.code yX10_company cX10_company 3 (some .int), Cond.methodLink RX10 145 yX0_isCompany, Cond.instanceMethod yX0_isCompany, Cond.selects RX0 yX0_isCompany yX0_isCompany]
def wsL_law_r22 : List Cond := [Cond.code yX0_isCompany cX0_isCompany 2 (some .boolean), Cond.methodLink RX0 60 yX0_companies, Cond.methodLink RX10 148 yX0_get, Cond.instanceMethod yX0_get, Cond.selects RX0 yX0_get yX0_get, Cond.code yX0_get cX0_get 3 (some .int), Cond.methodLink RL 43 yX11_company_, Cond.instanceMethod yX11_company_, Cond.selects RX11 yX11_company_ yX11_company_, Cond.code yX11_company_ cX11_company_ 3 (some .int), Cond.methodLink RX11 159 yX11_isCompany, Cond.instanceMethod yX11_isCompany, Cond.selects RX11 yX11_isCompany yX11_isCompany, Cond.code yX11_isCompany cX11_isCompany 2 (some .boolean), Cond.methodLink RL 44 yX10_put, Cond.instanceMethod yX10_put, Cond.selects RX10 yX10_put yX10_put, Cond.code yX10_put cX10_put 3 (some .int), Cond.methodLink RX10 151 yX0_canFeed, Cond.instanceMethod yX0_canFeed, Cond.selects RX0 yX0_canFeed yX0_canFeed, Cond.code yX0_canFeed cX0_canFeed 3 (some .boolean), Cond.methodLink RX0 73 yX0_isIn, Cond.instanceMethod yX0_isIn]
def wsL_law_r23 : List Cond := [Cond.selects RX0 yX0_isIn yX0_isIn, Cond.code yX0_isIn cX0_isIn 2 (some .boolean), Cond.methodLink RX0 67 yX0_get, Cond.methodLink RX10 155 yX7_push, Cond.instanceMethod yX7_push, Cond.selects RX7 yX7_push yX7_push, Cond.code yX7_push cX7_push 3 none, Cond.fieldLink RX7 32 "EmberTale$Shelf" "first" "I", Cond.methodLink RX7 28 yX7_isFull, Cond.instanceMethod yX7_isFull, Cond.selects RX7 yX7_isFull yX7_isFull, Cond.code yX7_isFull cX7_isFull 1 (some .boolean), Cond.methodLink RX7 35 yX7_slotOf, Cond.instanceMethod yX7_slotOf, Cond.selects RX7 yX7_slotOf yX7_slotOf, Cond.code yX7_slotOf cX7_slotOf 3 (some (.object "EmberTale$Camp")), Cond.methodLink RX7 43 yJ9_floorMod_7cf53, Cond.methodLink RX7 39 yX0_become, Cond.methodLink RX10 159 yX0_feed, Cond.instanceMethod yX0_feed, Cond.selects RX0 yX0_feed yX0_feed, Cond.code yX0_feed cX0_feed 4 none, Cond.methodLink RX0 76 yX0_change, Cond.instanceMethod yX0_change]
def wsL_law_r24 : List Cond := [Cond.selects RX0 yX0_change yX0_change, Cond.code yX0_change cX0_change 4 none, Cond.methodLink RX0 70 yX0_set, Cond.instanceMethod yX0_set, Cond.selects RX0 yX0_set yX0_set, Cond.code yX0_set cX0_set 4 none, Cond.methodLink RX0 63 yX6_set, Cond.instanceMethod yX6_set, Cond.selects RX6 yX6_set yX6_set, Cond.code yX6_set cX6_set 3 none, Cond.methodLink RX0 79 yX2_fed, Cond.static yX2_fed, Cond.initialized RX2, Cond.code yX2_fed cX2_fed 2 (some .int), Cond.methodLink RX2 15 Lib.Math.min.name, Cond.static Lib.Math.min.name, Cond.code Lib.Math.min.name Lib.Math.min.code 2 (some .int), Cond.methodLink RX2 21 Lib.Math.max.name, Cond.methodLink RX2 9 yX2_heatOf, Cond.static yX2_heatOf, Cond.code yX2_heatOf cX2_heatOf 1 (some .int), Cond.methodLink RX0 84 yX0_setHot, Cond.instanceMethod yX0_setHot, Cond.selects RX0 yX0_setHot yX0_setHot]
def wsL_law_r25 : List Cond := [Cond.code yX0_setHot cX0_setHot 3 none, Cond.methodLink RX0 87 yX8_behind, Cond.methodLink RL 47 yX11_put, Cond.instanceMethod yX11_put, Cond.selects RX11 yX11_put yX11_put, Cond.code yX11_put cX11_put 3 (some .int), Cond.methodLink RX11 172 yX11_mayPut, Cond.static yX11_mayPut, Cond.code yX11_mayPut cX11_mayPut 3 (some .boolean), Cond.methodLink RX11 176 yX11_remember, Cond.instanceMethod yX11_remember, Cond.selects RX11 yX11_remember yX11_remember, Cond.code yX11_remember cX11_remember 2 none, Cond.methodLink RX11 179 yX11_puts, Cond.instanceMethod yX11_puts, Cond.selects RX11 yX11_puts yX11_puts, Cond.code yX11_puts cX11_puts 5 none, Cond.methodLink RX11 162 yX11_hotter, Cond.static yX11_hotter, Cond.code yX11_hotter cX11_hotter 3 (some .int), Cond.methodLink RX11 165 yX11_goesOut, Cond.static yX11_goesOut, Cond.code yX11_goesOut cX11_goesOut 2 none, Cond.methodLink RL 48 yX10_pass]
def wsL_law_r26 : List Cond := [Cond.instanceMethod yX10_pass, Cond.selects RX10 yX10_pass yX10_pass, Cond.code yX10_pass cX10_pass 3 (some .int), Cond.methodLink RX10 163 yX0_burnAnHour, Cond.instanceMethod yX0_burnAnHour, Cond.selects RX0 yX0_burnAnHour yX0_burnAnHour, Cond.code yX0_burnAnHour cX0_burnAnHour 3 none, Cond.methodLink RX0 90 yX8_rainAt, Cond.methodLink RX0 93 yX2_burnt, Cond.static yX2_burnt, Cond.code yX2_burnt cX2_burnt 4 (some .int), Cond.methodLink RX10 166 yX0_firesIn, Cond.instanceMethod yX0_firesIn, Cond.selects RX0 yX0_firesIn yX0_firesIn, Cond.code yX0_firesIn cX0_firesIn 3 (some .int), Cond.methodLink RL 51 yX11_pass, Cond.instanceMethod yX11_pass, Cond.selects RX11 yX11_pass yX11_pass, Cond.code yX11_pass cX11_pass 3 (some .int), Cond.constantLong RX11 183 (24), Cond.methodLink RX11 185 yX11_hourGoes, Cond.instanceMethod yX11_hourGoes, Cond.selects RX11 yX11_hourGoes yX11_hourGoes, Cond.code yX11_hourGoes cX11_hourGoes 4 none]
def wsL_law_r27 : List Cond := [Cond.methodLink RX11 168 yX11_cooler, Cond.static yX11_cooler, Cond.code yX11_cooler cX11_cooler 4 (some .int), Cond.methodLink RX11 189 yX11_insOf, Cond.instanceMethod yX11_insOf, Cond.selects RX11 yX11_insOf yX11_insOf, Cond.code yX11_insOf cX11_insOf 4 (some .int), Cond.methodLink RL 52 yX10_light, Cond.instanceMethod yX10_light, Cond.selects RX10 yX10_light yX10_light, Cond.code yX10_light cX10_light 3 (some .int), Cond.methodLink RX10 169 yX10_areTwo, Cond.instanceMethod yX10_areTwo, Cond.selects RX10 yX10_areTwo yX10_areTwo, Cond.code yX10_areTwo cX10_areTwo 3 (some .boolean), Cond.methodLink RX10 172 yX0_canKindle, Cond.instanceMethod yX0_canKindle, Cond.selects RX0 yX0_canKindle yX0_canKindle, Cond.code yX0_canKindle cX0_canKindle 3 (some .boolean), Cond.methodLink RX10 175 yX0_kindle, Cond.instanceMethod yX0_kindle, Cond.selects RX0 yX0_kindle yX0_kindle, Cond.code yX0_kindle cX0_kindle 3 none, Cond.methodLink RL 55 yX11_light]
def wsL_law_r28 : List Cond := [Cond.instanceMethod yX11_light, Cond.selects RX11 yX11_light yX11_light, Cond.code yX11_light cX11_light 3 (some .int), Cond.methodLink RX11 193 yX11_mayLight, Cond.static yX11_mayLight, Cond.code yX11_mayLight cX11_mayLight 3 (some .boolean), Cond.methodLink RX11 196 yX11_lights, Cond.static yX11_lights, Cond.code yX11_lights cX11_lights 3 none, Cond.methodLink RL 56 yX10_join, Cond.instanceMethod yX10_join, Cond.selects RX10 yX10_join yX10_join, Cond.code yX10_join cX10_join 3 (some .int), Cond.methodLink RX10 178 yX0_isIn, Cond.methodLink RX10 181 yX0_merge, Cond.instanceMethod yX0_merge, Cond.selects RX0 yX0_merge yX0_merge, Cond.code yX0_merge cX0_merge 5 none, Cond.methodLink RX0 97 Lib.Math.min.name, Cond.methodLink RL 59 yX11_join, Cond.instanceMethod yX11_join, Cond.selects RX11 yX11_join yX11_join, Cond.code yX11_join cX11_join 6 (some .int), Cond.methodLink RX11 199 yX11_isIn]
def wsL_law_r29 : List Cond := [Cond.instanceMethod yX11_isIn, Cond.selects RX11 yX11_isIn yX11_isIn, Cond.code yX11_isIn cX11_isIn 2 (some .boolean), Cond.methodLink RL 60 yX10_hand, Cond.instanceMethod yX10_hand, Cond.selects RX10 yX10_hand yX10_hand, Cond.code yX10_hand cX10_hand 4 (some .int), Cond.methodLink RX10 184 yX0_canMove, Cond.instanceMethod yX0_canMove, Cond.selects RX0 yX0_canMove yX0_canMove, Cond.code yX0_canMove cX0_canMove 4 (some .boolean), Cond.methodLink RX10 187 yX0_move, Cond.instanceMethod yX0_move, Cond.selects RX0 yX0_move yX0_move, Cond.code yX0_move cX0_move 4 none, Cond.methodLink RL 64 yX11_hand, Cond.instanceMethod yX11_hand, Cond.selects RX11 yX11_hand yX11_hand, Cond.code yX11_hand cX11_hand 4 (some .int), Cond.methodLink RX11 202 yX11_mayHand, Cond.instanceMethod yX11_mayHand, Cond.selects RX11 yX11_mayHand yX11_mayHand, Cond.code yX11_mayHand cX11_mayHand 4 (some .boolean), Cond.methodLink RL 65 yX10_undo]
def wsL_law_r30 : List Cond := [Cond.instanceMethod yX10_undo, Cond.selects RX10 yX10_undo yX10_undo, Cond.code yX10_undo cX10_undo 1 (some .int), Cond.methodLink RX10 191 yX7_pop, Cond.instanceMethod yX7_pop, Cond.selects RX7 yX7_pop yX7_pop, Cond.code yX7_pop cX7_pop 3 (some .boolean), Cond.methodLink RX10 195 yX7_size, Cond.instanceMethod yX7_size, Cond.selects RX7 yX7_size yX7_size, Cond.code yX7_size cX7_size 1 (some .int), Cond.methodLink RL 68 yX11_undo, Cond.instanceMethod yX11_undo, Cond.selects RX11 yX11_undo yX11_undo, Cond.code yX11_undo cX11_undo 1 (some .int), Cond.methodLink RL 69 yX10_lasts, Cond.instanceMethod yX10_lasts, Cond.selects RX10 yX10_lasts yX10_lasts, Cond.code yX10_lasts cX10_lasts 2 (some .int), Cond.methodLink RX10 196 yX0_hoursLeft, Cond.instanceMethod yX0_hoursLeft, Cond.selects RX0 yX0_hoursLeft yX0_hoursLeft, Cond.code yX0_hoursLeft cX0_hoursLeft 4 (some .int), Cond.methodLink RL 72 yX11_lasts]
def wsL_law_r31 : List Cond := [Cond.instanceMethod yX11_lasts, Cond.selects RX11 yX11_lasts yX11_lasts, Cond.code yX11_lasts cX11_lasts 4 (some .int), Cond.methodLink RL 73 yX10_stays, Cond.instanceMethod yX10_stays, Cond.selects RX10 yX10_stays yX10_stays, Cond.code yX10_stays cX10_stays 5 (some .int), Cond.methodLink RX10 199 yX3_fewest, Cond.instanceMethod yX3_fewest, Cond.selects RX3 yX3_fewest yX3_fewest, Cond.code yX3_fewest cX3_fewest 5 (some .int), Cond.fieldLink RX3 33 "EmberTale$Keeper" "start" "I", Cond.methodLink RX3 37 Lib.Math.min.name, Cond.fieldLink RX3 43 "EmberTale$Keeper" "hours" "I", Cond.methodLink RX3 27 yX0_hours, Cond.methodLink RX3 45 yX6_clear, Cond.methodLink RX3 48 yX0_get, Cond.methodLink RX3 51 yX6_add, Cond.methodLink RX3 54 yX6_fill, Cond.instanceMethod yX6_fill, Cond.selects RX6 yX6_fill yX6_fill, Cond.code yX6_fill cX6_fill 3 none, Cond.methodLink RX3 57 yX3_isKept, Cond.instanceMethod yX3_isKept]
def wsL_law_r32 : List Cond := [Cond.selects RX3 yX3_isKept yX3_isKept, Cond.code yX3_isKept cX3_isKept 6 (some .boolean), Cond.methodLink RX3 64 yX3_isKeptBy, Cond.instanceMethod yX3_isKeptBy, Cond.selects RX3 yX3_isKeptBy yX3_isKeptBy, Cond.methodLink RX3 67 yX6_set, Cond.methodLink RX3 71 yX8_rainAt, Cond.methodLink RX3 76 yX2_burnt, Cond.code yX3_isKeptBy cX3_isKeptBy 7 (some .boolean), Cond.methodLink RX3 82 yX2_fed, Cond.methodLink RX3 61 yX6_get, Cond.methodLink RX10 203 yX3_woodAhead, Cond.instanceMethod yX3_woodAhead, Cond.selects RX3 yX3_woodAhead yX3_woodAhead, Cond.code yX3_woodAhead cX3_woodAhead 2 (some .int), Cond.methodLink RL 76 yX11_stays, Cond.instanceMethod yX11_stays, Cond.selects RX11 yX11_stays yX11_stays, Cond.code yX11_stays cX11_stays 5 (some .int), Cond.constantLong RX11 213 (6), Cond.constant RX11 209 (1000000), Cond.methodLink RX11 215 yX11_layLogs, Cond.instanceMethod yX11_layLogs, Cond.selects RX11 yX11_layLogs yX11_layLogs]
def wsL_law_r33 : List Cond := [Cond.code yX11_layLogs cX11_layLogs 2 none, Cond.methodLink RX11 219 yX11_keeps, Cond.instanceMethod yX11_keeps, Cond.selects RX11 yX11_keeps yX11_keeps, Cond.code yX11_keeps cX11_keeps 7 (some .int), Cond.methodLink RX11 210 yX11_keptBy, Cond.instanceMethod yX11_keptBy, Cond.selects RX11 yX11_keptBy yX11_keptBy, Cond.code yX11_keptBy cX11_keptBy 10 (some .int), Cond.methodLink RX11 206 yX11_giveBack, Cond.instanceMethod yX11_giveBack, Cond.selects RX11 yX11_giveBack yX11_giveBack, Cond.code yX11_giveBack cX11_giveBack 3 (some .int), Cond.methodLink RL 77 yX10_tell, Cond.instanceMethod yX10_tell, Cond.selects RX10 yX10_tell yX10_tell, Cond.code yX10_tell cX10_tell 5 (some .int), Cond.methodLink RX10 206 yX9_fewest, Cond.instanceMethod yX9_fewest, Cond.selects RX9 yX9_fewest yX9_fewest, Cond.code yX9_fewest cX9_fewest 5 (some .int), Cond.fieldLink RX9 39 "EmberTale$Teller" "wanted" "I", Cond.fieldLink RX9 52 "EmberTale$Teller" "length" "I", Cond.methodLink RX9 29 yX0_get]
def wsL_law_r34 : List Cond := [Cond.methodLink RX9 33 yX8_reached, Cond.instanceMethod yX8_reached, Cond.selects RX8 yX8_reached yX8_reached, Cond.code yX8_reached cX8_reached 4 (some .int), Cond.methodLink RX8 75 yX8_oneStepOn, Cond.instanceMethod yX8_oneStepOn, Cond.selects RX8 yX8_oneStepOn yX8_oneStepOn, Cond.code yX8_oneStepOn cX8_oneStepOn 5 (some .int), Cond.methodLink RX8 78 yX8_comingFrom, Cond.instanceMethod yX8_comingFrom, Cond.selects RX8 yX8_comingFrom yX8_comingFrom, Cond.code yX8_comingFrom cX8_comingFrom 4 (some .int), Cond.methodLink RX8 66 yX8_behind, Cond.methodLink RX9 43 yX6_clear, Cond.methodLink RX9 46 yX6_add, Cond.methodLink RX9 49 yX6_fill, Cond.methodLink RX9 55 yX9_isTold, Cond.instanceMethod yX9_isTold, Cond.selects RX9 yX9_isTold yX9_isTold, Cond.code yX9_isTold cX9_isTold 5 (some .boolean), Cond.methodLink RX9 61 yX9_isToldBy, Cond.instanceMethod yX9_isToldBy, Cond.selects RX9 yX9_isToldBy yX9_isToldBy, Cond.code yX9_isToldBy cX9_isToldBy 7 (some .boolean)]
def wsL_law_r35 : List Cond := [Cond.methodLink RX9 65 yX2_fed, Cond.methodLink RX9 59 yX6_get, Cond.methodLink RX9 70 yX6_set, Cond.methodLink RX9 74 yX8_comingFrom, Cond.methodLink RX10 207 yX9_woodAt, Cond.instanceMethod yX9_woodAt, Cond.selects RX9 yX9_woodAt yX9_woodAt, Cond.code yX9_woodAt cX9_woodAt 2 (some .int), Cond.methodLink RL 80 yX11_tell, Cond.instanceMethod yX11_tell, Cond.selects RX11 yX11_tell yX11_tell, Cond.code yX11_tell cX11_tell 5 (some .int), Cond.methodLink RX11 228 yX11_tellsFor, Cond.instanceMethod yX11_tellsFor, Cond.selects RX11 yX11_tellsFor yX11_tellsFor, Cond.code yX11_tellsFor cX11_tellsFor 8 (some .int), Cond.methodLink RX11 225 yX11_tellsBy, Cond.instanceMethod yX11_tellsBy, Cond.selects RX11 yX11_tellsBy yX11_tellsBy, Cond.code yX11_tellsBy cX11_tellsBy 7 (some .boolean), Cond.methodLink RX11 222 yX11_goes, Cond.instanceMethod yX11_goes, Cond.selects RX11 yX11_goes yX11_goes, Cond.code yX11_goes cX11_goes 4 (some .int)]
def wsL_law_r36 : List Cond := [Cond.methodLink RL 81 yX10_meet, Cond.instanceMethod yX10_meet, Cond.selects RX10 yX10_meet yX10_meet, Cond.code yX10_meet cX10_meet 5 (some .int), Cond.methodLink RX10 210 yX4_shortest, Cond.instanceMethod yX4_shortest, Cond.selects RX4 yX4_shortest yX4_shortest, Cond.code yX4_shortest cX4_shortest 7 (some .int), Cond.methodLink RX4 36 yX6_clear, Cond.methodLink RX4 39 yX6_fill, Cond.methodLink RX4 42 yX4_reach, Cond.instanceMethod yX4_reach, Cond.selects RX4 yX4_reach yX4_reach, Cond.code yX4_reach cX4_reach 6 none, Cond.methodLink RX4 50 yX6_get, Cond.methodLink RX4 63 yX6_set, Cond.methodLink RX4 67 yX6_add, Cond.methodLink RX4 46 yX6_size, Cond.methodLink RX4 54 yX4_traceBack, Cond.instanceMethod yX4_traceBack, Cond.selects RX4 yX4_traceBack yX4_traceBack, Cond.code yX4_traceBack cX4_traceBack 4 (some .int), Cond.methodLink RX4 57 yX8_comingFrom, Cond.methodLink RX10 213 yX4_woodAt]
def wsL_law_r37 : List Cond := [Cond.instanceMethod yX4_woodAt, Cond.selects RX4 yX4_woodAt yX4_woodAt, Cond.code yX4_woodAt cX4_woodAt 2 (some .int), Cond.methodLink RL 84 yX11_meet, Cond.instanceMethod yX11_meet, Cond.selects RX11 yX11_meet yX11_meet, Cond.code yX11_meet cX11_meet 5 (some .int), Cond.methodLink RX11 234 yX11_meets, Cond.instanceMethod yX11_meets, Cond.selects RX11 yX11_meets yX11_meets, Cond.code yX11_meets cX11_meets 9 (some .int), Cond.methodLink RX11 231 yX11_laysWay, Cond.instanceMethod yX11_laysWay, Cond.selects RX11 yX11_laysWay yX11_laysWay, Cond.code yX11_laysWay cX11_laysWay 5 (some .int), Cond.methodLink RL 85 yX10_can, Cond.instanceMethod yX10_can, Cond.selects RX10 yX10_can yX10_can, Cond.code yX10_can cX10_can 2 (some .int), Cond.methodLink RX10 214 yX8_reached, Cond.methodLink RL 88 yX11_can, Cond.instanceMethod yX11_can, Cond.selects RX11 yX11_can yX11_can, Cond.code yX11_can cX11_can 6 (some .int)]
def wsL_law_r38 : List Cond := [Cond.methodLink RX11 237 yX11_has, Cond.static yX11_has, Cond.code yX11_has cX11_has 2 (some .boolean), Cond.methodLink RL 89 yX10_give, Cond.instanceMethod yX10_give, Cond.selects RX10 yX10_give yX10_give, Cond.code yX10_give cX10_give 5 (some .int), Cond.methodLink RX10 217 yX10_wouldHelp, Cond.instanceMethod yX10_wouldHelp, Cond.selects RX10 yX10_wouldHelp yX10_wouldHelp, Cond.code yX10_wouldHelp cX10_wouldHelp 5 (some .boolean), Cond.methodLink RL 92 yX11_give, Cond.instanceMethod yX11_give, Cond.selects RX11 yX11_give yX11_give, Cond.code yX11_give cX11_give 5 (some .int), Cond.methodLink RX11 240 yX11_isKeptWith, Cond.instanceMethod yX11_isKeptWith, Cond.selects RX11 yX11_isKeptWith yX11_isKeptWith, Cond.code yX11_isKeptWith cX11_isKeptWith 5 (some .boolean), Cond.methodLink RL 93 yX10_see, Cond.instanceMethod yX10_see, Cond.selects RX10 yX10_see yX10_see, Cond.code yX10_see cX10_see 2 (some .int), Cond.methodLink RL 96 yX11_see]
def wsL_law_r39 : List Cond := [Cond.instanceMethod yX11_see, Cond.selects RX11 yX11_see yX11_see, Cond.code yX11_see cX11_see 2 (some .int), Cond.methodLink RL 97 yX10_forget, Cond.instanceMethod yX10_forget, Cond.selects RX10 yX10_forget yX10_forget, Cond.code yX10_forget cX10_forget 2 (some .int), Cond.methodLink RL 100 yX11_forget, Cond.instanceMethod yX11_forget, Cond.selects RX11 yX11_forget yX11_forget, Cond.code yX11_forget cX11_forget 2 (some .int), Cond.methodLink RL 101 yX10_from, Cond.instanceMethod yX10_from, Cond.selects RX10 yX10_from yX10_from, Cond.code yX10_from cX10_from 2 (some .int), Cond.methodLink RX10 221 yX8_origins, Cond.instanceMethod yX8_origins, Cond.selects RX8 yX8_origins yX8_origins, Cond.code yX8_origins cX8_origins 5 (some .int), Cond.methodLink RX8 81 yX8_endOf, Cond.instanceMethod yX8_endOf, Cond.selects RX8 yX8_endOf yX8_endOf, Cond.code yX8_endOf cX8_endOf 5 (some .int), Cond.methodLink RL 104 yX11_from]
def wsL_law_r40 : List Cond := [Cond.instanceMethod yX11_from, Cond.selects RX11 yX11_from yX11_from, Cond.code yX11_from cX11_from 6 (some .int), Cond.methodLink RL 105 yX10_rows, Cond.instanceMethod yX10_rows, Cond.selects RX10 yX10_rows yX10_rows, Cond.code yX10_rows cX10_rows 4 (some .int), Cond.methodLink RX10 225 yX8_waysBetween, Cond.instanceMethod yX8_waysBetween, Cond.selects RX8 yX8_waysBetween yX8_waysBetween, Cond.code yX8_waysBetween cX8_waysBetween 5 (some .int), Cond.methodLink RX8 85 yX6_fill, Cond.methodLink RX8 88 yX6_set, Cond.methodLink RX8 92 yX8_lengthenWays, Cond.instanceMethod yX8_lengthenWays, Cond.selects RX8 yX8_lengthenWays yX8_lengthenWays, Cond.code yX8_lengthenWays cX8_lengthenWays 4 none, Cond.methodLink RL 108 yX11_rows, Cond.instanceMethod yX11_rows, Cond.selects RX11 yX11_rows yX11_rows, Cond.code yX11_rows cX11_rows 7 (some .int), Cond.constantLong RX11 244 (8), Cond.methodLink RL 109 yX10_rains, Cond.instanceMethod yX10_rains]
def wsL_law_r41 : List Cond := [Cond.selects RX10 yX10_rains yX10_rains, Cond.code yX10_rains cX10_rains 5 (some .int), Cond.methodLink RX10 229 yX1_ofBeingIn, Cond.instanceMethod yX1_ofBeingIn, Cond.selects RX1 yX1_ofBeingIn yX1_ofBeingIn, Cond.code yX1_ofBeingIn cX1_ofBeingIn 9 (some .int), Cond.methodLink RX1 27 yX6_fill, Cond.methodLink RX1 32 yX0_get, Cond.methodLink RX1 36 yX6_set, Cond.methodLink RX1 40 yX0_hours, Cond.methodLink RX1 44 yX8_rainAt, Cond.methodLink RX1 50 yX1_burn, Cond.instanceMethod yX1_burn, Cond.selects RX1 yX1_burn yX1_burn, Cond.code yX1_burn cX1_burn 5 none, Cond.methodLink RX1 59 yX2_burnt, Cond.methodLink RX1 54 yX6_get, Cond.methodLink RX1 65 yX1_addWays, Cond.instanceMethod yX1_addWays, Cond.selects RX1 yX1_addWays yX1_addWays, Cond.code yX1_addWays cX1_addWays 3 none, Cond.methodLink RX1 68 yX6_become, Cond.methodLink RX1 56 yX1_commonDivisor, Cond.static yX1_commonDivisor]
def wsL_law_r42 : List Cond := [Cond.code yX1_commonDivisor cX1_commonDivisor 6 (some .int), Cond.methodLink RL 113 yX11_rains, Cond.instanceMethod yX11_rains, Cond.selects RX11 yX11_rains yX11_rains, Cond.code yX11_rains cX11_rains 14 (some .int), Cond.constantLong RX11 246 (10), Cond.methodLink RX11 248 yX11_lowest, Cond.static yX11_lowest, Cond.code yX11_lowest cX11_lowest 11 (some .int), Cond.methodLink RL 114 yX10_winter, Cond.instanceMethod yX10_winter, Cond.selects RX10 yX10_winter yX10_winter, Cond.code yX10_winter cX10_winter 5 (some .int), Cond.methodLink RX10 236 yX10_draw, Cond.static yX10_draw, Cond.code yX10_draw cX10_draw 4 (some .int), Cond.constantLong RX10 264 (7919), Cond.constantLong RX10 266 (6151), Cond.constantLong RX10 268 (65521), Cond.methodLink RX10 239 yX0_meetDraw, Cond.instanceMethod yX0_meetDraw, Cond.selects RX0 yX0_meetDraw yX0_meetDraw, Cond.code yX0_meetDraw cX0_meetDraw 7 none, Cond.methodLink RX0 102 yX0_burnAnHour]
def wsL_law_r43 : List Cond := [Cond.methodLink RX0 105 yX0_canKindle, Cond.methodLink RX0 109 yX0_kindle, Cond.methodLink RX0 112 yX0_canFeed, Cond.methodLink RX0 115 yX0_feed, Cond.methodLink RX10 242 yX0_linesTold, Cond.instanceMethod yX0_linesTold, Cond.selects RX0 yX0_linesTold yX0_linesTold, Cond.code yX0_linesTold cX0_linesTold 3 (some .int), Cond.methodLink RL 117 yX11_winter, Cond.instanceMethod yX11_winter, Cond.selects RX11 yX11_winter yX11_winter, Cond.code yX11_winter cX11_winter 12 (some .int), Cond.constantLong RX11 252 (9999), Cond.constantLong RX11 254 (60), Cond.constantLong RX11 256 (7919), Cond.constantLong RX11 258 (6151), Cond.constantLong RX11 260 (65521), Cond.methodLink RX11 262 yX11_toldIn, Cond.static yX11_toldIn, Cond.code yX11_toldIn cX11_toldIn 3 (some .int), Cond.methodLink RL 118 yX10_keep, Cond.instanceMethod yX10_keep, Cond.selects RX10 yX10_keep yX10_keep, Cond.code yX10_keep cX10_keep 1 (some .int)]
def wsL_law_r44 : List Cond := [Cond.methodLink RX10 245 yX7_isFull, Cond.methodLink RL 121 yX11_keep, Cond.instanceMethod yX11_keep, Cond.selects RX11 yX11_keep yX11_keep, Cond.code yX11_keep cX11_keep 1 (some .int), Cond.methodLink RL 122 yX10_back, Cond.instanceMethod yX10_back, Cond.selects RX10 yX10_back yX10_back, Cond.code yX10_back cX10_back 1 (some .int), Cond.methodLink RL 125 yX11_back, Cond.instanceMethod yX11_back, Cond.selects RX11 yX11_back yX11_back, Cond.code yX11_back cX11_back 1 (some .int), Cond.methodLink RL 126 yX10_count, Cond.instanceMethod yX10_count, Cond.selects RX10 yX10_count yX10_count, Cond.code yX10_count cX10_count 2 (some .int), Cond.methodLink RX10 247 yX8_lines, Cond.instanceMethod yX8_lines, Cond.selects RX8 yX8_lines yX8_lines, Cond.code yX8_lines cX8_lines 1 (some .int), Cond.methodLink RX10 250 yX0_allLogs, Cond.instanceMethod yX0_allLogs, Cond.selects RX0 yX0_allLogs yX0_allLogs]
def wsL_law_r45 : List Cond := [Cond.code yX0_allLogs cX0_allLogs 4 (some .int), Cond.methodLink RL 129 yX11_count, Cond.instanceMethod yX11_count, Cond.selects RX11 yX11_count yX11_count, Cond.code yX11_count cX11_count 2 (some .int), Cond.methodLink RX11 265 yX11_logsOfAll, Cond.instanceMethod yX11_logsOfAll, Cond.selects RX11 yX11_logsOfAll yX11_logsOfAll, Cond.code yX11_logsOfAll cX11_logsOfAll 3 (some .int)]
def wsL_law : List Cond := (wsL_law_r1 ++ (wsL_law_r2 ++ (wsL_law_r3 ++ (wsL_law_r4 ++ (wsL_law_r5 ++ (wsL_law_r6 ++ (wsL_law_r7 ++ (wsL_law_r8 ++ (wsL_law_r9 ++ (wsL_law_r10 ++ (wsL_law_r11 ++ (wsL_law_r12 ++ (wsL_law_r13 ++ (wsL_law_r14 ++ (wsL_law_r15 ++ (wsL_law_r16 ++ (wsL_law_r17 ++ (wsL_law_r18 ++ (wsL_law_r19 ++ (wsL_law_r20 ++ (wsL_law_r21 ++ (wsL_law_r22 ++ (wsL_law_r23 ++ (wsL_law_r24 ++ (wsL_law_r25 ++ (wsL_law_r26 ++ (wsL_law_r27 ++ (wsL_law_r28 ++ (wsL_law_r29 ++ (wsL_law_r30 ++ (wsL_law_r31 ++ (wsL_law_r32 ++ (wsL_law_r33 ++ (wsL_law_r34 ++ (wsL_law_r35 ++ (wsL_law_r36 ++ (wsL_law_r37 ++ (wsL_law_r38 ++ (wsL_law_r39 ++ (wsL_law_r40 ++ (wsL_law_r41 ++ (wsL_law_r42 ++ (wsL_law_r43 ++ (wsL_law_r44 ++ wsL_law_r45)))))))))))))))))))))))))))))))))))))))))))) ++ wsX100 ++ wsX110 ++ wsX60 ++ wsX80 ++ wsX00 ++ wsX70 ++ wsX50 ++ wsX30 ++ wsX90 ++ wsX40 ++ wsX10 ++ ([] : List Cond)
theorem inlX0 : ∀ w ∈ wsX00, w ∈ wsL_law := fun _ h => List.mem_append_left _ (List.mem_append_left _ (List.mem_append_left _ (List.mem_append_left _ (List.mem_append_left _ (List.mem_append_left _ (List.mem_append_left _ (List.mem_append_right _ h)))))))
theorem inlX1 : ∀ w ∈ wsX10, w ∈ wsL_law := fun _ h => List.mem_append_left _ (List.mem_append_right _ h)
theorem inlX3 : ∀ w ∈ wsX30, w ∈ wsL_law := fun _ h => List.mem_append_left _ (List.mem_append_left _ (List.mem_append_left _ (List.mem_append_left _ (List.mem_append_right _ h))))
theorem inlX4 : ∀ w ∈ wsX40, w ∈ wsL_law := fun _ h => List.mem_append_left _ (List.mem_append_left _ (List.mem_append_right _ h))
theorem inlX5 : ∀ w ∈ wsX50, w ∈ wsL_law := fun _ h => List.mem_append_left _ (List.mem_append_left _ (List.mem_append_left _ (List.mem_append_left _ (List.mem_append_left _ (List.mem_append_right _ h)))))
theorem inlX6 : ∀ w ∈ wsX60, w ∈ wsL_law := fun _ h => List.mem_append_left _ (List.mem_append_left _ (List.mem_append_left _ (List.mem_append_left _ (List.mem_append_left _ (List.mem_append_left _ (List.mem_append_left _ (List.mem_append_left _ (List.mem_append_left _ (List.mem_append_right _ h)))))))))
theorem inlX7 : ∀ w ∈ wsX70, w ∈ wsL_law := fun _ h => List.mem_append_left _ (List.mem_append_left _ (List.mem_append_left _ (List.mem_append_left _ (List.mem_append_left _ (List.mem_append_left _ (List.mem_append_right _ h))))))
theorem inlX8 : ∀ w ∈ wsX80, w ∈ wsL_law := fun _ h => List.mem_append_left _ (List.mem_append_left _ (List.mem_append_left _ (List.mem_append_left _ (List.mem_append_left _ (List.mem_append_left _ (List.mem_append_left _ (List.mem_append_left _ (List.mem_append_right _ h))))))))
theorem inlX9 : ∀ w ∈ wsX90, w ∈ wsL_law := fun _ h => List.mem_append_left _ (List.mem_append_left _ (List.mem_append_left _ (List.mem_append_right _ h)))
theorem inlX10 : ∀ w ∈ wsX100, w ∈ wsL_law := fun _ h => List.mem_append_left _ (List.mem_append_left _ (List.mem_append_left _ (List.mem_append_left _ (List.mem_append_left _ (List.mem_append_left _ (List.mem_append_left _ (List.mem_append_left _ (List.mem_append_left _ (List.mem_append_left _ (List.mem_append_left _ (List.mem_append_right _ h)))))))))))
theorem inlX11 : ∀ w ∈ wsX110, w ∈ wsL_law := fun _ h => List.mem_append_left _ (List.mem_append_left _ (List.mem_append_left _ (List.mem_append_left _ (List.mem_append_left _ (List.mem_append_left _ (List.mem_append_left _ (List.mem_append_left _ (List.mem_append_left _ (List.mem_append_left _ (List.mem_append_right _ h))))))))))
abbrev vwCl : List vw_C := [(RX0, TX0, 3), (RX1, TX1, 3), (RX3, TX3, 5), (RX4, TX4, 6), (RX5, TX5, 5), (RX6, TX6, 2), (RX7, TX7, 3), (RX8, TX8, 5), (RX9, TX9, 5), (RX10, TX10, 12), (RX11, TX11, 23)]
end
section
theorem vm_b1 : GoodIn lw_tbl wsL_law_r1 := goodIn_r _ [72, 73, 55, 912, 913, 70, 74, 75, 76, 77, 78, 79, 80, 81, 56, 461, 462, 97, 98, 58, 463, 121, 122, 59] (by decide +kernel) (by decide +kernel)
theorem vm_b2 : GoodIn lw_tbl wsL_law_r2 := goodIn_r _ [464, 465, 139, 140, 60, 466, 467, 159, 160, 61, 468, 187, 188, 62, 469, 211, 212, 63, 470, 235, 236, 64, 471, 262] (by decide +kernel) (by decide +kernel)
theorem vm_b3 : GoodIn lw_tbl wsL_law_r3 := goodIn_r _ [263, 65, 472, 82, 83, 84, 85, 86, 87, 57, 88, 96, 89, 100, 101, 102, 103, 105, 106, 107, 108, 104, 123, 124] (by decide +kernel) (by decide +kernel)
theorem vm_b4 : GoodIn lw_tbl wsL_law_r4 := goodIn_r _ [125, 126, 127, 130, 129, 128, 141, 142, 143, 144, 145, 146, 149, 148, 161, 162, 163, 164, 165, 172, 167, 173, 169, 174] (by decide +kernel) (by decide +kernel)
theorem vm_b5 : GoodIn lw_tbl wsL_law_r5 := goodIn_r _ [171, 166, 170, 189, 190, 191, 192, 193, 196, 197, 195, 194, 213, 214, 215, 216, 217, 220, 221, 219, 218, 237, 238, 239] (by decide +kernel) (by decide +kernel)
theorem vm_b6 : GoodIn lw_tbl wsL_law_r6 := goodIn_r _ [240, 241, 244, 245, 246, 247, 248, 243, 242, 264, 265, 266, 267, 268, 271, 272, 270, 269, 281, 282, 283, 66, 284, 1285] (by decide +kernel) (by decide +kernel)
theorem vm_b7 : GoodIn lw_tbl wsL_law_r7 := goodIn_r _ [285, 286, 287, 288, 289, 1286, 291, 292, 293, 294, 295, 296, 297, 298, 299, 300, 67, 301, 302, 303, 304, 305, 307, 308] (by decide +kernel) (by decide +kernel)
theorem vm_b8 : GoodIn lw_tbl wsL_law_r8 := goodIn_r _ [68, 309, 310, 311, 69, 312, 313, 314, 315, 316, 317, 318, 319, 320, 321, 322, 323, 325, 327, 329, 330, 331, 332, 90] (by decide +kernel) (by decide +kernel)
theorem vm_b9 : GoodIn lw_tbl wsL_law_r9 := goodIn_r _ [333, 335, 0, 336, 337, 338, 339, 340, 175, 341, 342, 343, 344, 109, 345, 346, 347, 348, 349, 350, 351, 352, 131, 353] (by decide +kernel) (by decide +kernel)
theorem vm_b10 : GoodIn lw_tbl wsL_law_r10 := goodIn_r _ [354, 355, 356, 357, 358, 360, 1, 361, 362, 364, 2, 365, 366, 367, 368, 369, 370, 372, 3, 373, 374, 375, 376, 377] (by decide +kernel) (by decide +kernel)
theorem vm_b11 : GoodIn lw_tbl wsL_law_r11 := goodIn_r _ [378, 379, 380, 381, 382, 383, 384, 385, 386, 387, 388, 389, 391, 4, 392, 393, 395, 5, 396, 397, 398, 399, 400, 402] (by decide +kernel) (by decide +kernel)
theorem vm_b12 : GoodIn lw_tbl wsL_law_r12 := goodIn_r _ [403, 404, 405, 406, 407, 408, 409, 410, 411, 412, 413, 415, 416, 417, 418, 419, 420, 421, 422, 423, 424, 425, 426, 427] (by decide +kernel) (by decide +kernel)
theorem vm_b13 : GoodIn lw_tbl wsL_law_r13 := goodIn_r _ [428, 429, 430, 431, 432, 433, 434, 435, 436, 437, 438, 439, 440, 441, 442, 443, 444, 445, 446, 447, 448, 449, 450, 451] (by decide +kernel) (by decide +kernel)
theorem vm_b14 : GoodIn lw_tbl wsL_law_r14 := goodIn_r _ [452, 453, 454, 455, 456, 457, 458, 459, 460, 151, 914, 915, 916, 917, 928, 929, 930, 931, 932, 934, 936, 938, 942, 943] (by decide +kernel) (by decide +kernel)
theorem vm_b15 : GoodIn lw_tbl wsL_law_r15 := goodIn_r _ [944, 945, 946, 947, 948, 949, 950, 918, 919, 920, 921, 922, 923, 924, 926, 23, 927, 933, 935, 937, 499, 500, 501, 502] (by decide +kernel) (by decide +kernel)
theorem vm_b16 : GoodIn lw_tbl wsL_law_r16 := goodIn_r _ [503, 504, 505, 998, 999, 1000, 1001, 1002, 1003, 939, 1004, 1005, 1006, 506, 507, 508, 509, 1007, 1008, 1009, 1010, 510, 511, 512] (by decide +kernel) (by decide +kernel)
theorem vm_b17 : GoodIn lw_tbl wsL_law_r17 := goodIn_r _ [513, 1011, 1012, 1013, 1014, 1015, 1017, 24, 1018, 940, 1019, 1021, 25, 1022, 1023, 1025, 26, 1026, 1027, 1029, 27, 1030, 1031, 1032] (by decide +kernel) (by decide +kernel)
theorem vm_b18 : GoodIn lw_tbl wsL_law_r18 := goodIn_r _ [1033, 1034, 1035, 1036, 1038, 28, 1039, 941, 1040, 1042, 29, 1043, 1044, 1046, 30, 1047, 1048, 1050, 31, 1051, 514, 515, 516, 517] (by decide +kernel) (by decide +kernel)
theorem vm_b19 : GoodIn lw_tbl wsL_law_r19 := goodIn_r _ [518, 1052, 1053, 1054, 1055, 1056, 1058, 32, 1059, 1060, 1061, 1062, 519, 520, 521, 522, 523, 524, 525, 526, 527, 528, 529, 530] (by decide +kernel) (by decide +kernel)
theorem vm_b20 : GoodIn lw_tbl wsL_law_r20 := goodIn_r _ [1063, 1064, 1065, 1066, 1067, 1069, 33, 1070, 1071, 1072, 1073, 1074, 1075, 1077, 34, 1078, 532, 533, 534, 535, 536, 537, 538, 539] (by decide +kernel) (by decide +kernel)
theorem vm_b21 : GoodIn lw_tbl wsL_law_r21 := goodIn_r _ [540, 541, 542, 543, 544, 545, 57, 546, 1079, 1080, 1081, 1082, 1083, 1084, 1086, 35, 1087, 547, 548, 549, 550, 551, 552, 553] (by decide +kernel) (by decide +kernel)
theorem vm_b22 : GoodIn lw_tbl wsL_law_r22 := goodIn_r _ [554, 555, 556, 557, 558, 559, 1088, 1089, 1090, 1091, 1092, 1094, 36, 1095, 560, 561, 562, 563, 564, 565, 566, 567, 568, 569] (by decide +kernel) (by decide +kernel)
theorem vm_b23 : GoodIn lw_tbl wsL_law_r23 := goodIn_r _ [570, 571, 572, 573, 574, 575, 576, 150, 577, 578, 579, 580, 581, 583, 6, 584, 585, 586, 587, 588, 589, 590, 591, 593] (by decide +kernel) (by decide +kernel)
theorem vm_b24 : GoodIn lw_tbl wsL_law_r24 := goodIn_r _ [7, 594, 595, 597, 8, 598, 599, 600, 601, 602, 603, 604, 71, 605, 609, 610, 611, 612, 606, 607, 608, 613, 615, 9] (by decide +kernel) (by decide +kernel)
theorem vm_b25 : GoodIn lw_tbl wsL_law_r25 := goodIn_r _ [616, 617, 1096, 1097, 1098, 1099, 1100, 1101, 1102, 1103, 1105, 37, 1106, 1107, 1109, 38, 1110, 1111, 1112, 1113, 1114, 1115, 1116, 618] (by decide +kernel) (by decide +kernel)
theorem vm_b26 : GoodIn lw_tbl wsL_law_r26 := goodIn_r _ [619, 620, 621, 622, 623, 624, 625, 626, 627, 628, 629, 630, 631, 632, 633, 1117, 1118, 1119, 1120, 1121, 1122, 1124, 39, 1125] (by decide +kernel) (by decide +kernel)
theorem vm_b27 : GoodIn lw_tbl wsL_law_r27 := goodIn_r _ [1126, 1127, 1128, 1129, 1131, 40, 1132, 634, 635, 636, 637, 638, 640, 10, 641, 642, 643, 644, 645, 646, 647, 648, 649, 1133] (by decide +kernel) (by decide +kernel)
theorem vm_b28 : GoodIn lw_tbl wsL_law_r28 := goodIn_r _ [1134, 1135, 1136, 1137, 1138, 1139, 1140, 1141, 1142, 650, 651, 652, 653, 654, 655, 656, 657, 658, 659, 1143, 1144, 1145, 1146, 1147] (by decide +kernel) (by decide +kernel)
theorem vm_b29 : GoodIn lw_tbl wsL_law_r29 := goodIn_r _ [1149, 41, 1150, 660, 661, 662, 663, 664, 665, 666, 667, 668, 669, 670, 671, 1151, 1152, 1153, 1154, 1155, 1157, 42, 1158, 672] (by decide +kernel) (by decide +kernel)
theorem vm_b30 : GoodIn lw_tbl wsL_law_r30 := goodIn_r _ [673, 674, 675, 676, 677, 678, 679, 680, 681, 682, 683, 1159, 1160, 1161, 1162, 684, 685, 686, 687, 688, 689, 690, 691, 1163] (by decide +kernel) (by decide +kernel)
theorem vm_b31 : GoodIn lw_tbl wsL_law_r31 := goodIn_r _ [1164, 1165, 1166, 692, 693, 694, 695, 696, 697, 698, 699, 198, 701, 199, 700, 702, 703, 704, 705, 706, 707, 708, 709, 711] (by decide +kernel) (by decide +kernel)
theorem vm_b32 : GoodIn lw_tbl wsL_law_r32 := goodIn_r _ [11, 712, 713, 715, 12, 719, 720, 721, 716, 717, 718, 722, 723, 724, 725, 1167, 1168, 1169, 1170, 1171, 1180, 1172, 1174, 43] (by decide +kernel) (by decide +kernel)
theorem vm_b33 : GoodIn lw_tbl wsL_law_r33 := goodIn_r _ [1175, 1176, 1178, 44, 1179, 1181, 1183, 45, 1184, 1185, 1187, 46, 1188, 726, 727, 728, 729, 730, 731, 732, 733, 222, 223, 734] (by decide +kernel) (by decide +kernel)
theorem vm_b34 : GoodIn lw_tbl wsL_law_r34 := goodIn_r _ [735, 736, 737, 738, 739, 741, 13, 742, 743, 744, 745, 746, 747, 748, 749, 750, 751, 753, 14, 754, 755, 757, 15, 758] (by decide +kernel) (by decide +kernel)
theorem vm_b35 : GoodIn lw_tbl wsL_law_r35 := goodIn_r _ [759, 760, 761, 762, 763, 764, 765, 766, 1189, 1190, 1191, 1192, 1193, 1195, 47, 1196, 1197, 1199, 48, 1200, 1201, 1203, 49, 1204] (by decide +kernel) (by decide +kernel)
theorem vm_b36 : GoodIn lw_tbl wsL_law_r36 := goodIn_r _ [767, 768, 769, 770, 771, 772, 773, 774, 775, 776, 777, 779, 16, 780, 781, 782, 783, 784, 785, 787, 17, 788, 789, 790] (by decide +kernel) (by decide +kernel)
theorem vm_b37 : GoodIn lw_tbl wsL_law_r37 := goodIn_r _ [791, 792, 793, 1205, 1206, 1207, 1208, 1209, 1211, 50, 1212, 1213, 1215, 51, 1216, 794, 795, 796, 797, 798, 1217, 1218, 1219, 1220] (by decide +kernel) (by decide +kernel)
theorem vm_b38 : GoodIn lw_tbl wsL_law_r38 := goodIn_r _ [1221, 1222, 1223, 799, 800, 801, 802, 803, 805, 18, 806, 1224, 1225, 1226, 1227, 1228, 1230, 52, 1231, 807, 808, 809, 810, 1232] (by decide +kernel) (by decide +kernel)
theorem vm_b39 : GoodIn lw_tbl wsL_law_r39 := goodIn_r _ [1233, 1234, 1235, 811, 812, 813, 814, 1236, 1237, 1238, 1239, 815, 816, 817, 818, 819, 820, 821, 822, 823, 825, 19, 826, 1240] (by decide +kernel) (by decide +kernel)
theorem vm_b40 : GoodIn lw_tbl wsL_law_r40 := goodIn_r _ [1241, 1242, 1243, 827, 828, 829, 830, 831, 832, 833, 834, 835, 836, 837, 839, 20, 840, 1244, 1245, 1246, 1247, 1248, 841, 842] (by decide +kernel) (by decide +kernel)
theorem vm_b41 : GoodIn lw_tbl wsL_law_r41 := goodIn_r _ [843, 844, 845, 846, 847, 848, 849, 850, 851, 852, 853, 854, 856, 21, 857, 858, 859, 860, 862, 22, 863, 864, 865, 866] (by decide +kernel) (by decide +kernel)
theorem vm_b42 : GoodIn lw_tbl wsL_law_r42 := goodIn_r _ [867, 1249, 1250, 1251, 1252, 1253, 1254, 1255, 1256, 868, 869, 870, 871, 872, 873, 874, 875, 876, 877, 878, 879, 880, 881, 882] (by decide +kernel) (by decide +kernel)
theorem vm_b43 : GoodIn lw_tbl wsL_law_r43 := goodIn_r _ [883, 884, 885, 886, 887, 888, 889, 890, 1257, 1258, 1259, 1260, 1261, 1262, 1263, 1264, 1265, 1266, 1267, 1268, 891, 892, 893, 894] (by decide +kernel) (by decide +kernel)
theorem vm_b44 : GoodIn lw_tbl wsL_law_r44 := goodIn_r _ [895, 1269, 1270, 1271, 1272, 896, 897, 898, 899, 1273, 1274, 1275, 1276, 900, 901, 902, 903, 904, 905, 906, 907, 908, 909, 910] (by decide +kernel) (by decide +kernel)
theorem vm_b45 : GoodIn lw_tbl wsL_law_r45 := goodIn_r _ [911, 1277, 1278, 1279, 1280, 1281, 1283, 53, 1284] (by decide +kernel) (by decide +kernel)
theorem vm_bt10 : GoodIn lw_tbl wsX100 := goodIn_r _ [473, 475, 477, 479, 481, 483, 485, 487, 489, 491, 493, 495] (by decide +kernel) (by decide +kernel)
theorem vm_bt11 : GoodIn lw_tbl wsX110 := goodIn_r _ [951, 953, 955, 957, 959, 961, 963, 965, 967, 969, 971, 973, 975, 977, 979, 981, 983, 985, 987, 989, 991, 993, 995] (by decide +kernel) (by decide +kernel)
theorem vm_bt6 : GoodIn lw_tbl wsX60 := goodIn_r _ [91, 93] (by decide +kernel) (by decide +kernel)
theorem vm_bt8 : GoodIn lw_tbl wsX80 := goodIn_r _ [110, 112, 114, 116, 118] (by decide +kernel) (by decide +kernel)
theorem vm_bt0 : GoodIn lw_tbl wsX00 := goodIn_r _ [132, 134, 136] (by decide +kernel) (by decide +kernel)
theorem vm_bt7 : GoodIn lw_tbl wsX70 := goodIn_r _ [152, 154, 156] (by decide +kernel) (by decide +kernel)
theorem vm_bt5 : GoodIn lw_tbl wsX50 := goodIn_r _ [176, 178, 180, 182, 184] (by decide +kernel) (by decide +kernel)
theorem vm_bt3 : GoodIn lw_tbl wsX30 := goodIn_r _ [200, 202, 204, 206, 208] (by decide +kernel) (by decide +kernel)
theorem vm_bt9 : GoodIn lw_tbl wsX90 := goodIn_r _ [224, 226, 228, 230, 232] (by decide +kernel) (by decide +kernel)
theorem vm_bt4 : GoodIn lw_tbl wsX40 := goodIn_r _ [249, 251, 253, 255, 257, 259] (by decide +kernel) (by decide +kernel)
theorem vm_bt1 : GoodIn lw_tbl wsX10 := goodIn_r _ [273, 275, 277] (by decide +kernel) (by decide +kernel)
theorem vm_bG : GoodIn lw_tbl wsL_law := goodIn_app (goodIn_app (goodIn_app (goodIn_app (goodIn_app (goodIn_app (goodIn_app (goodIn_app (goodIn_app (goodIn_app (goodIn_app (goodIn_app (goodIn_app vm_b1 (goodIn_app vm_b2 (goodIn_app vm_b3 (goodIn_app vm_b4 (goodIn_app vm_b5 (goodIn_app vm_b6 (goodIn_app vm_b7 (goodIn_app vm_b8 (goodIn_app vm_b9 (goodIn_app vm_b10 (goodIn_app vm_b11 (goodIn_app vm_b12 (goodIn_app vm_b13 (goodIn_app vm_b14 (goodIn_app vm_b15 (goodIn_app vm_b16 (goodIn_app vm_b17 (goodIn_app vm_b18 (goodIn_app vm_b19 (goodIn_app vm_b20 (goodIn_app vm_b21 (goodIn_app vm_b22 (goodIn_app vm_b23 (goodIn_app vm_b24 (goodIn_app vm_b25 (goodIn_app vm_b26 (goodIn_app vm_b27 (goodIn_app vm_b28 (goodIn_app vm_b29 (goodIn_app vm_b30 (goodIn_app vm_b31 (goodIn_app vm_b32 (goodIn_app vm_b33 (goodIn_app vm_b34 (goodIn_app vm_b35 (goodIn_app vm_b36 (goodIn_app vm_b37 (goodIn_app vm_b38 (goodIn_app vm_b39 (goodIn_app vm_b40 (goodIn_app vm_b41 (goodIn_app vm_b42 (goodIn_app vm_b43 (goodIn_app vm_b44 (vm_b45))))))))))))))))))))))))))))))))))))))))))))) vm_bt10) vm_bt11) vm_bt6) vm_bt8) vm_bt0) vm_bt7) vm_bt5) vm_bt3) vm_bt9) vm_bt4) vm_bt1) (fun w h => absurd h List.not_mem_nil)
theorem wsL_law_in : ∀ w ∈ wsL_law, w ∈ lw_tbl := fun w h => (vm_bG w h).1
theorem vm_r1 : ∀ w ∈ wsL_law_r1, w ∈ wsL_law := fun w h => List.mem_append_left _ (List.mem_append_left _ (List.mem_append_left _ (List.mem_append_left _ (List.mem_append_left _ (List.mem_append_left _ (List.mem_append_left _ (List.mem_append_left _ (List.mem_append_left _ (List.mem_append_left _ (List.mem_append_left _ (List.mem_append_left _ (List.mem_append_left _ h))))))))))))
theorem vm_r2 : ∀ w ∈ wsL_law_r2, w ∈ wsL_law := fun w h => List.mem_append_left _ (List.mem_append_left _ (List.mem_append_left _ (List.mem_append_left _ (List.mem_append_left _ (List.mem_append_left _ (List.mem_append_left _ (List.mem_append_left _ (List.mem_append_left _ (List.mem_append_left _ (List.mem_append_left _ (List.mem_append_left _ (List.mem_append_right _ (List.mem_append_left _ h)))))))))))))
theorem vm_r3 : ∀ w ∈ wsL_law_r3, w ∈ wsL_law := fun w h => List.mem_append_left _ (List.mem_append_left _ (List.mem_append_left _ (List.mem_append_left _ (List.mem_append_left _ (List.mem_append_left _ (List.mem_append_left _ (List.mem_append_left _ (List.mem_append_left _ (List.mem_append_left _ (List.mem_append_left _ (List.mem_append_left _ (List.mem_append_right _ (List.mem_append_right _ (List.mem_append_left _ h))))))))))))))
theorem vm_r4 : ∀ w ∈ wsL_law_r4, w ∈ wsL_law := fun w h => List.mem_append_left _ (List.mem_append_left _ (List.mem_append_left _ (List.mem_append_left _ (List.mem_append_left _ (List.mem_append_left _ (List.mem_append_left _ (List.mem_append_left _ (List.mem_append_left _ (List.mem_append_left _ (List.mem_append_left _ (List.mem_append_left _ (List.mem_append_right _ (List.mem_append_right _ (List.mem_append_right _ (List.mem_append_left _ h)))))))))))))))
theorem vm_r5 : ∀ w ∈ wsL_law_r5, w ∈ wsL_law := fun w h => List.mem_append_left _ (List.mem_append_left _ (List.mem_append_left _ (List.mem_append_left _ (List.mem_append_left _ (List.mem_append_left _ (List.mem_append_left _ (List.mem_append_left _ (List.mem_append_left _ (List.mem_append_left _ (List.mem_append_left _ (List.mem_append_left _ (List.mem_append_right _ (List.mem_append_right _ (List.mem_append_right _ (List.mem_append_right _ (List.mem_append_left _ h))))))))))))))))
theorem vm_r6 : ∀ w ∈ wsL_law_r6, w ∈ wsL_law := fun w h => List.mem_append_left _ (List.mem_append_left _ (List.mem_append_left _ (List.mem_append_left _ (List.mem_append_left _ (List.mem_append_left _ (List.mem_append_left _ (List.mem_append_left _ (List.mem_append_left _ (List.mem_append_left _ (List.mem_append_left _ (List.mem_append_left _ (List.mem_append_right _ (List.mem_append_right _ (List.mem_append_right _ (List.mem_append_right _ (List.mem_append_right _ (List.mem_append_left _ h)))))))))))))))))
theorem vm_r7 : ∀ w ∈ wsL_law_r7, w ∈ wsL_law := fun w h => List.mem_append_left _ (List.mem_append_left _ (List.mem_append_left _ (List.mem_append_left _ (List.mem_append_left _ (List.mem_append_left _ (List.mem_append_left _ (List.mem_append_left _ (List.mem_append_left _ (List.mem_append_left _ (List.mem_append_left _ (List.mem_append_left _ (List.mem_append_right _ (List.mem_append_right _ (List.mem_append_right _ (List.mem_append_right _ (List.mem_append_right _ (List.mem_append_right _ (List.mem_append_left _ h))))))))))))))))))
theorem vm_r8 : ∀ w ∈ wsL_law_r8, w ∈ wsL_law := fun w h => List.mem_append_left _ (List.mem_append_left _ (List.mem_append_left _ (List.mem_append_left _ (List.mem_append_left _ (List.mem_append_left _ (List.mem_append_left _ (List.mem_append_left _ (List.mem_append_left _ (List.mem_append_left _ (List.mem_append_left _ (List.mem_append_left _ (List.mem_append_right _ (List.mem_append_right _ (List.mem_append_right _ (List.mem_append_right _ (List.mem_append_right _ (List.mem_append_right _ (List.mem_append_right _ (List.mem_append_left _ h)))))))))))))))))))
theorem vm_r9 : ∀ w ∈ wsL_law_r9, w ∈ wsL_law := fun w h => List.mem_append_left _ (List.mem_append_left _ (List.mem_append_left _ (List.mem_append_left _ (List.mem_append_left _ (List.mem_append_left _ (List.mem_append_left _ (List.mem_append_left _ (List.mem_append_left _ (List.mem_append_left _ (List.mem_append_left _ (List.mem_append_left _ (List.mem_append_right _ (List.mem_append_right _ (List.mem_append_right _ (List.mem_append_right _ (List.mem_append_right _ (List.mem_append_right _ (List.mem_append_right _ (List.mem_append_right _ (List.mem_append_left _ h))))))))))))))))))))
theorem vm_r10 : ∀ w ∈ wsL_law_r10, w ∈ wsL_law := fun w h => List.mem_append_left _ (List.mem_append_left _ (List.mem_append_left _ (List.mem_append_left _ (List.mem_append_left _ (List.mem_append_left _ (List.mem_append_left _ (List.mem_append_left _ (List.mem_append_left _ (List.mem_append_left _ (List.mem_append_left _ (List.mem_append_left _ (List.mem_append_right _ (List.mem_append_right _ (List.mem_append_right _ (List.mem_append_right _ (List.mem_append_right _ (List.mem_append_right _ (List.mem_append_right _ (List.mem_append_right _ (List.mem_append_right _ (List.mem_append_left _ h)))))))))))))))))))))
theorem vm_r11 : ∀ w ∈ wsL_law_r11, w ∈ wsL_law := fun w h => List.mem_append_left _ (List.mem_append_left _ (List.mem_append_left _ (List.mem_append_left _ (List.mem_append_left _ (List.mem_append_left _ (List.mem_append_left _ (List.mem_append_left _ (List.mem_append_left _ (List.mem_append_left _ (List.mem_append_left _ (List.mem_append_left _ (List.mem_append_right _ (List.mem_append_right _ (List.mem_append_right _ (List.mem_append_right _ (List.mem_append_right _ (List.mem_append_right _ (List.mem_append_right _ (List.mem_append_right _ (List.mem_append_right _ (List.mem_append_right _ (List.mem_append_left _ h))))))))))))))))))))))
theorem vm_r12 : ∀ w ∈ wsL_law_r12, w ∈ wsL_law := fun w h => List.mem_append_left _ (List.mem_append_left _ (List.mem_append_left _ (List.mem_append_left _ (List.mem_append_left _ (List.mem_append_left _ (List.mem_append_left _ (List.mem_append_left _ (List.mem_append_left _ (List.mem_append_left _ (List.mem_append_left _ (List.mem_append_left _ (List.mem_append_right _ (List.mem_append_right _ (List.mem_append_right _ (List.mem_append_right _ (List.mem_append_right _ (List.mem_append_right _ (List.mem_append_right _ (List.mem_append_right _ (List.mem_append_right _ (List.mem_append_right _ (List.mem_append_right _ (List.mem_append_left _ h)))))))))))))))))))))))
theorem vm_r13 : ∀ w ∈ wsL_law_r13, w ∈ wsL_law := fun w h => List.mem_append_left _ (List.mem_append_left _ (List.mem_append_left _ (List.mem_append_left _ (List.mem_append_left _ (List.mem_append_left _ (List.mem_append_left _ (List.mem_append_left _ (List.mem_append_left _ (List.mem_append_left _ (List.mem_append_left _ (List.mem_append_left _ (List.mem_append_right _ (List.mem_append_right _ (List.mem_append_right _ (List.mem_append_right _ (List.mem_append_right _ (List.mem_append_right _ (List.mem_append_right _ (List.mem_append_right _ (List.mem_append_right _ (List.mem_append_right _ (List.mem_append_right _ (List.mem_append_right _ (List.mem_append_left _ h))))))))))))))))))))))))
theorem vm_r14 : ∀ w ∈ wsL_law_r14, w ∈ wsL_law := fun w h => List.mem_append_left _ (List.mem_append_left _ (List.mem_append_left _ (List.mem_append_left _ (List.mem_append_left _ (List.mem_append_left _ (List.mem_append_left _ (List.mem_append_left _ (List.mem_append_left _ (List.mem_append_left _ (List.mem_append_left _ (List.mem_append_left _ (List.mem_append_right _ (List.mem_append_right _ (List.mem_append_right _ (List.mem_append_right _ (List.mem_append_right _ (List.mem_append_right _ (List.mem_append_right _ (List.mem_append_right _ (List.mem_append_right _ (List.mem_append_right _ (List.mem_append_right _ (List.mem_append_right _ (List.mem_append_right _ (List.mem_append_left _ h)))))))))))))))))))))))))
theorem vm_r15 : ∀ w ∈ wsL_law_r15, w ∈ wsL_law := fun w h => List.mem_append_left _ (List.mem_append_left _ (List.mem_append_left _ (List.mem_append_left _ (List.mem_append_left _ (List.mem_append_left _ (List.mem_append_left _ (List.mem_append_left _ (List.mem_append_left _ (List.mem_append_left _ (List.mem_append_left _ (List.mem_append_left _ (List.mem_append_right _ (List.mem_append_right _ (List.mem_append_right _ (List.mem_append_right _ (List.mem_append_right _ (List.mem_append_right _ (List.mem_append_right _ (List.mem_append_right _ (List.mem_append_right _ (List.mem_append_right _ (List.mem_append_right _ (List.mem_append_right _ (List.mem_append_right _ (List.mem_append_right _ (List.mem_append_left _ h))))))))))))))))))))))))))
theorem vm_r16 : ∀ w ∈ wsL_law_r16, w ∈ wsL_law := fun w h => List.mem_append_left _ (List.mem_append_left _ (List.mem_append_left _ (List.mem_append_left _ (List.mem_append_left _ (List.mem_append_left _ (List.mem_append_left _ (List.mem_append_left _ (List.mem_append_left _ (List.mem_append_left _ (List.mem_append_left _ (List.mem_append_left _ (List.mem_append_right _ (List.mem_append_right _ (List.mem_append_right _ (List.mem_append_right _ (List.mem_append_right _ (List.mem_append_right _ (List.mem_append_right _ (List.mem_append_right _ (List.mem_append_right _ (List.mem_append_right _ (List.mem_append_right _ (List.mem_append_right _ (List.mem_append_right _ (List.mem_append_right _ (List.mem_append_right _ (List.mem_append_left _ h)))))))))))))))))))))))))))
theorem vm_r17 : ∀ w ∈ wsL_law_r17, w ∈ wsL_law := fun w h => List.mem_append_left _ (List.mem_append_left _ (List.mem_append_left _ (List.mem_append_left _ (List.mem_append_left _ (List.mem_append_left _ (List.mem_append_left _ (List.mem_append_left _ (List.mem_append_left _ (List.mem_append_left _ (List.mem_append_left _ (List.mem_append_left _ (List.mem_append_right _ (List.mem_append_right _ (List.mem_append_right _ (List.mem_append_right _ (List.mem_append_right _ (List.mem_append_right _ (List.mem_append_right _ (List.mem_append_right _ (List.mem_append_right _ (List.mem_append_right _ (List.mem_append_right _ (List.mem_append_right _ (List.mem_append_right _ (List.mem_append_right _ (List.mem_append_right _ (List.mem_append_right _ (List.mem_append_left _ h))))))))))))))))))))))))))))
theorem vm_r18 : ∀ w ∈ wsL_law_r18, w ∈ wsL_law := fun w h => List.mem_append_left _ (List.mem_append_left _ (List.mem_append_left _ (List.mem_append_left _ (List.mem_append_left _ (List.mem_append_left _ (List.mem_append_left _ (List.mem_append_left _ (List.mem_append_left _ (List.mem_append_left _ (List.mem_append_left _ (List.mem_append_left _ (List.mem_append_right _ (List.mem_append_right _ (List.mem_append_right _ (List.mem_append_right _ (List.mem_append_right _ (List.mem_append_right _ (List.mem_append_right _ (List.mem_append_right _ (List.mem_append_right _ (List.mem_append_right _ (List.mem_append_right _ (List.mem_append_right _ (List.mem_append_right _ (List.mem_append_right _ (List.mem_append_right _ (List.mem_append_right _ (List.mem_append_right _ (List.mem_append_left _ h)))))))))))))))))))))))))))))
theorem vm_r19 : ∀ w ∈ wsL_law_r19, w ∈ wsL_law := fun w h => List.mem_append_left _ (List.mem_append_left _ (List.mem_append_left _ (List.mem_append_left _ (List.mem_append_left _ (List.mem_append_left _ (List.mem_append_left _ (List.mem_append_left _ (List.mem_append_left _ (List.mem_append_left _ (List.mem_append_left _ (List.mem_append_left _ (List.mem_append_right _ (List.mem_append_right _ (List.mem_append_right _ (List.mem_append_right _ (List.mem_append_right _ (List.mem_append_right _ (List.mem_append_right _ (List.mem_append_right _ (List.mem_append_right _ (List.mem_append_right _ (List.mem_append_right _ (List.mem_append_right _ (List.mem_append_right _ (List.mem_append_right _ (List.mem_append_right _ (List.mem_append_right _ (List.mem_append_right _ (List.mem_append_right _ (List.mem_append_left _ h))))))))))))))))))))))))))))))
theorem vm_r20 : ∀ w ∈ wsL_law_r20, w ∈ wsL_law := fun w h => List.mem_append_left _ (List.mem_append_left _ (List.mem_append_left _ (List.mem_append_left _ (List.mem_append_left _ (List.mem_append_left _ (List.mem_append_left _ (List.mem_append_left _ (List.mem_append_left _ (List.mem_append_left _ (List.mem_append_left _ (List.mem_append_left _ (List.mem_append_right _ (List.mem_append_right _ (List.mem_append_right _ (List.mem_append_right _ (List.mem_append_right _ (List.mem_append_right _ (List.mem_append_right _ (List.mem_append_right _ (List.mem_append_right _ (List.mem_append_right _ (List.mem_append_right _ (List.mem_append_right _ (List.mem_append_right _ (List.mem_append_right _ (List.mem_append_right _ (List.mem_append_right _ (List.mem_append_right _ (List.mem_append_right _ (List.mem_append_right _ (List.mem_append_left _ h)))))))))))))))))))))))))))))))
theorem vm_r21 : ∀ w ∈ wsL_law_r21, w ∈ wsL_law := fun w h => List.mem_append_left _ (List.mem_append_left _ (List.mem_append_left _ (List.mem_append_left _ (List.mem_append_left _ (List.mem_append_left _ (List.mem_append_left _ (List.mem_append_left _ (List.mem_append_left _ (List.mem_append_left _ (List.mem_append_left _ (List.mem_append_left _ (List.mem_append_right _ (List.mem_append_right _ (List.mem_append_right _ (List.mem_append_right _ (List.mem_append_right _ (List.mem_append_right _ (List.mem_append_right _ (List.mem_append_right _ (List.mem_append_right _ (List.mem_append_right _ (List.mem_append_right _ (List.mem_append_right _ (List.mem_append_right _ (List.mem_append_right _ (List.mem_append_right _ (List.mem_append_right _ (List.mem_append_right _ (List.mem_append_right _ (List.mem_append_right _ (List.mem_append_right _ (List.mem_append_left _ h))))))))))))))))))))))))))))))))
theorem vm_r22 : ∀ w ∈ wsL_law_r22, w ∈ wsL_law := fun w h => List.mem_append_left _ (List.mem_append_left _ (List.mem_append_left _ (List.mem_append_left _ (List.mem_append_left _ (List.mem_append_left _ (List.mem_append_left _ (List.mem_append_left _ (List.mem_append_left _ (List.mem_append_left _ (List.mem_append_left _ (List.mem_append_left _ (List.mem_append_right _ (List.mem_append_right _ (List.mem_append_right _ (List.mem_append_right _ (List.mem_append_right _ (List.mem_append_right _ (List.mem_append_right _ (List.mem_append_right _ (List.mem_append_right _ (List.mem_append_right _ (List.mem_append_right _ (List.mem_append_right _ (List.mem_append_right _ (List.mem_append_right _ (List.mem_append_right _ (List.mem_append_right _ (List.mem_append_right _ (List.mem_append_right _ (List.mem_append_right _ (List.mem_append_right _ (List.mem_append_right _ (List.mem_append_left _ h)))))))))))))))))))))))))))))))))
theorem vm_r23 : ∀ w ∈ wsL_law_r23, w ∈ wsL_law := fun w h => List.mem_append_left _ (List.mem_append_left _ (List.mem_append_left _ (List.mem_append_left _ (List.mem_append_left _ (List.mem_append_left _ (List.mem_append_left _ (List.mem_append_left _ (List.mem_append_left _ (List.mem_append_left _ (List.mem_append_left _ (List.mem_append_left _ (List.mem_append_right _ (List.mem_append_right _ (List.mem_append_right _ (List.mem_append_right _ (List.mem_append_right _ (List.mem_append_right _ (List.mem_append_right _ (List.mem_append_right _ (List.mem_append_right _ (List.mem_append_right _ (List.mem_append_right _ (List.mem_append_right _ (List.mem_append_right _ (List.mem_append_right _ (List.mem_append_right _ (List.mem_append_right _ (List.mem_append_right _ (List.mem_append_right _ (List.mem_append_right _ (List.mem_append_right _ (List.mem_append_right _ (List.mem_append_right _ (List.mem_append_left _ h))))))))))))))))))))))))))))))))))
theorem vm_r24 : ∀ w ∈ wsL_law_r24, w ∈ wsL_law := fun w h => List.mem_append_left _ (List.mem_append_left _ (List.mem_append_left _ (List.mem_append_left _ (List.mem_append_left _ (List.mem_append_left _ (List.mem_append_left _ (List.mem_append_left _ (List.mem_append_left _ (List.mem_append_left _ (List.mem_append_left _ (List.mem_append_left _ (List.mem_append_right _ (List.mem_append_right _ (List.mem_append_right _ (List.mem_append_right _ (List.mem_append_right _ (List.mem_append_right _ (List.mem_append_right _ (List.mem_append_right _ (List.mem_append_right _ (List.mem_append_right _ (List.mem_append_right _ (List.mem_append_right _ (List.mem_append_right _ (List.mem_append_right _ (List.mem_append_right _ (List.mem_append_right _ (List.mem_append_right _ (List.mem_append_right _ (List.mem_append_right _ (List.mem_append_right _ (List.mem_append_right _ (List.mem_append_right _ (List.mem_append_right _ (List.mem_append_left _ h)))))))))))))))))))))))))))))))))))
theorem vm_r25 : ∀ w ∈ wsL_law_r25, w ∈ wsL_law := fun w h => List.mem_append_left _ (List.mem_append_left _ (List.mem_append_left _ (List.mem_append_left _ (List.mem_append_left _ (List.mem_append_left _ (List.mem_append_left _ (List.mem_append_left _ (List.mem_append_left _ (List.mem_append_left _ (List.mem_append_left _ (List.mem_append_left _ (List.mem_append_right _ (List.mem_append_right _ (List.mem_append_right _ (List.mem_append_right _ (List.mem_append_right _ (List.mem_append_right _ (List.mem_append_right _ (List.mem_append_right _ (List.mem_append_right _ (List.mem_append_right _ (List.mem_append_right _ (List.mem_append_right _ (List.mem_append_right _ (List.mem_append_right _ (List.mem_append_right _ (List.mem_append_right _ (List.mem_append_right _ (List.mem_append_right _ (List.mem_append_right _ (List.mem_append_right _ (List.mem_append_right _ (List.mem_append_right _ (List.mem_append_right _ (List.mem_append_right _ (List.mem_append_left _ h))))))))))))))))))))))))))))))))))))
theorem vm_r26 : ∀ w ∈ wsL_law_r26, w ∈ wsL_law := fun w h => List.mem_append_left _ (List.mem_append_left _ (List.mem_append_left _ (List.mem_append_left _ (List.mem_append_left _ (List.mem_append_left _ (List.mem_append_left _ (List.mem_append_left _ (List.mem_append_left _ (List.mem_append_left _ (List.mem_append_left _ (List.mem_append_left _ (List.mem_append_right _ (List.mem_append_right _ (List.mem_append_right _ (List.mem_append_right _ (List.mem_append_right _ (List.mem_append_right _ (List.mem_append_right _ (List.mem_append_right _ (List.mem_append_right _ (List.mem_append_right _ (List.mem_append_right _ (List.mem_append_right _ (List.mem_append_right _ (List.mem_append_right _ (List.mem_append_right _ (List.mem_append_right _ (List.mem_append_right _ (List.mem_append_right _ (List.mem_append_right _ (List.mem_append_right _ (List.mem_append_right _ (List.mem_append_right _ (List.mem_append_right _ (List.mem_append_right _ (List.mem_append_right _ (List.mem_append_left _ h)))))))))))))))))))))))))))))))))))))
theorem vm_r27 : ∀ w ∈ wsL_law_r27, w ∈ wsL_law := fun w h => List.mem_append_left _ (List.mem_append_left _ (List.mem_append_left _ (List.mem_append_left _ (List.mem_append_left _ (List.mem_append_left _ (List.mem_append_left _ (List.mem_append_left _ (List.mem_append_left _ (List.mem_append_left _ (List.mem_append_left _ (List.mem_append_left _ (List.mem_append_right _ (List.mem_append_right _ (List.mem_append_right _ (List.mem_append_right _ (List.mem_append_right _ (List.mem_append_right _ (List.mem_append_right _ (List.mem_append_right _ (List.mem_append_right _ (List.mem_append_right _ (List.mem_append_right _ (List.mem_append_right _ (List.mem_append_right _ (List.mem_append_right _ (List.mem_append_right _ (List.mem_append_right _ (List.mem_append_right _ (List.mem_append_right _ (List.mem_append_right _ (List.mem_append_right _ (List.mem_append_right _ (List.mem_append_right _ (List.mem_append_right _ (List.mem_append_right _ (List.mem_append_right _ (List.mem_append_right _ (List.mem_append_left _ h))))))))))))))))))))))))))))))))))))))
theorem vm_r28 : ∀ w ∈ wsL_law_r28, w ∈ wsL_law := fun w h => List.mem_append_left _ (List.mem_append_left _ (List.mem_append_left _ (List.mem_append_left _ (List.mem_append_left _ (List.mem_append_left _ (List.mem_append_left _ (List.mem_append_left _ (List.mem_append_left _ (List.mem_append_left _ (List.mem_append_left _ (List.mem_append_left _ (List.mem_append_right _ (List.mem_append_right _ (List.mem_append_right _ (List.mem_append_right _ (List.mem_append_right _ (List.mem_append_right _ (List.mem_append_right _ (List.mem_append_right _ (List.mem_append_right _ (List.mem_append_right _ (List.mem_append_right _ (List.mem_append_right _ (List.mem_append_right _ (List.mem_append_right _ (List.mem_append_right _ (List.mem_append_right _ (List.mem_append_right _ (List.mem_append_right _ (List.mem_append_right _ (List.mem_append_right _ (List.mem_append_right _ (List.mem_append_right _ (List.mem_append_right _ (List.mem_append_right _ (List.mem_append_right _ (List.mem_append_right _ (List.mem_append_right _ (List.mem_append_left _ h)))))))))))))))))))))))))))))))))))))))
theorem vm_r29 : ∀ w ∈ wsL_law_r29, w ∈ wsL_law := fun w h => List.mem_append_left _ (List.mem_append_left _ (List.mem_append_left _ (List.mem_append_left _ (List.mem_append_left _ (List.mem_append_left _ (List.mem_append_left _ (List.mem_append_left _ (List.mem_append_left _ (List.mem_append_left _ (List.mem_append_left _ (List.mem_append_left _ (List.mem_append_right _ (List.mem_append_right _ (List.mem_append_right _ (List.mem_append_right _ (List.mem_append_right _ (List.mem_append_right _ (List.mem_append_right _ (List.mem_append_right _ (List.mem_append_right _ (List.mem_append_right _ (List.mem_append_right _ (List.mem_append_right _ (List.mem_append_right _ (List.mem_append_right _ (List.mem_append_right _ (List.mem_append_right _ (List.mem_append_right _ (List.mem_append_right _ (List.mem_append_right _ (List.mem_append_right _ (List.mem_append_right _ (List.mem_append_right _ (List.mem_append_right _ (List.mem_append_right _ (List.mem_append_right _ (List.mem_append_right _ (List.mem_append_right _ (List.mem_append_right _ (List.mem_append_left _ h))))))))))))))))))))))))))))))))))))))))
theorem vm_r30 : ∀ w ∈ wsL_law_r30, w ∈ wsL_law := fun w h => List.mem_append_left _ (List.mem_append_left _ (List.mem_append_left _ (List.mem_append_left _ (List.mem_append_left _ (List.mem_append_left _ (List.mem_append_left _ (List.mem_append_left _ (List.mem_append_left _ (List.mem_append_left _ (List.mem_append_left _ (List.mem_append_left _ (List.mem_append_right _ (List.mem_append_right _ (List.mem_append_right _ (List.mem_append_right _ (List.mem_append_right _ (List.mem_append_right _ (List.mem_append_right _ (List.mem_append_right _ (List.mem_append_right _ (List.mem_append_right _ (List.mem_append_right _ (List.mem_append_right _ (List.mem_append_right _ (List.mem_append_right _ (List.mem_append_right _ (List.mem_append_right _ (List.mem_append_right _ (List.mem_append_right _ (List.mem_append_right _ (List.mem_append_right _ (List.mem_append_right _ (List.mem_append_right _ (List.mem_append_right _ (List.mem_append_right _ (List.mem_append_right _ (List.mem_append_right _ (List.mem_append_right _ (List.mem_append_right _ (List.mem_append_right _ (List.mem_append_left _ h)))))))))))))))))))))))))))))))))))))))))
theorem vm_r31 : ∀ w ∈ wsL_law_r31, w ∈ wsL_law := fun w h => List.mem_append_left _ (List.mem_append_left _ (List.mem_append_left _ (List.mem_append_left _ (List.mem_append_left _ (List.mem_append_left _ (List.mem_append_left _ (List.mem_append_left _ (List.mem_append_left _ (List.mem_append_left _ (List.mem_append_left _ (List.mem_append_left _ (List.mem_append_right _ (List.mem_append_right _ (List.mem_append_right _ (List.mem_append_right _ (List.mem_append_right _ (List.mem_append_right _ (List.mem_append_right _ (List.mem_append_right _ (List.mem_append_right _ (List.mem_append_right _ (List.mem_append_right _ (List.mem_append_right _ (List.mem_append_right _ (List.mem_append_right _ (List.mem_append_right _ (List.mem_append_right _ (List.mem_append_right _ (List.mem_append_right _ (List.mem_append_right _ (List.mem_append_right _ (List.mem_append_right _ (List.mem_append_right _ (List.mem_append_right _ (List.mem_append_right _ (List.mem_append_right _ (List.mem_append_right _ (List.mem_append_right _ (List.mem_append_right _ (List.mem_append_right _ (List.mem_append_right _ (List.mem_append_left _ h))))))))))))))))))))))))))))))))))))))))))
theorem vm_r32 : ∀ w ∈ wsL_law_r32, w ∈ wsL_law := fun w h => List.mem_append_left _ (List.mem_append_left _ (List.mem_append_left _ (List.mem_append_left _ (List.mem_append_left _ (List.mem_append_left _ (List.mem_append_left _ (List.mem_append_left _ (List.mem_append_left _ (List.mem_append_left _ (List.mem_append_left _ (List.mem_append_left _ (List.mem_append_right _ (List.mem_append_right _ (List.mem_append_right _ (List.mem_append_right _ (List.mem_append_right _ (List.mem_append_right _ (List.mem_append_right _ (List.mem_append_right _ (List.mem_append_right _ (List.mem_append_right _ (List.mem_append_right _ (List.mem_append_right _ (List.mem_append_right _ (List.mem_append_right _ (List.mem_append_right _ (List.mem_append_right _ (List.mem_append_right _ (List.mem_append_right _ (List.mem_append_right _ (List.mem_append_right _ (List.mem_append_right _ (List.mem_append_right _ (List.mem_append_right _ (List.mem_append_right _ (List.mem_append_right _ (List.mem_append_right _ (List.mem_append_right _ (List.mem_append_right _ (List.mem_append_right _ (List.mem_append_right _ (List.mem_append_right _ (List.mem_append_left _ h)))))))))))))))))))))))))))))))))))))))))))
theorem vm_r33 : ∀ w ∈ wsL_law_r33, w ∈ wsL_law := fun w h => List.mem_append_left _ (List.mem_append_left _ (List.mem_append_left _ (List.mem_append_left _ (List.mem_append_left _ (List.mem_append_left _ (List.mem_append_left _ (List.mem_append_left _ (List.mem_append_left _ (List.mem_append_left _ (List.mem_append_left _ (List.mem_append_left _ (List.mem_append_right _ (List.mem_append_right _ (List.mem_append_right _ (List.mem_append_right _ (List.mem_append_right _ (List.mem_append_right _ (List.mem_append_right _ (List.mem_append_right _ (List.mem_append_right _ (List.mem_append_right _ (List.mem_append_right _ (List.mem_append_right _ (List.mem_append_right _ (List.mem_append_right _ (List.mem_append_right _ (List.mem_append_right _ (List.mem_append_right _ (List.mem_append_right _ (List.mem_append_right _ (List.mem_append_right _ (List.mem_append_right _ (List.mem_append_right _ (List.mem_append_right _ (List.mem_append_right _ (List.mem_append_right _ (List.mem_append_right _ (List.mem_append_right _ (List.mem_append_right _ (List.mem_append_right _ (List.mem_append_right _ (List.mem_append_right _ (List.mem_append_right _ (List.mem_append_left _ h))))))))))))))))))))))))))))))))))))))))))))
theorem vm_r34 : ∀ w ∈ wsL_law_r34, w ∈ wsL_law := fun w h => List.mem_append_left _ (List.mem_append_left _ (List.mem_append_left _ (List.mem_append_left _ (List.mem_append_left _ (List.mem_append_left _ (List.mem_append_left _ (List.mem_append_left _ (List.mem_append_left _ (List.mem_append_left _ (List.mem_append_left _ (List.mem_append_left _ (List.mem_append_right _ (List.mem_append_right _ (List.mem_append_right _ (List.mem_append_right _ (List.mem_append_right _ (List.mem_append_right _ (List.mem_append_right _ (List.mem_append_right _ (List.mem_append_right _ (List.mem_append_right _ (List.mem_append_right _ (List.mem_append_right _ (List.mem_append_right _ (List.mem_append_right _ (List.mem_append_right _ (List.mem_append_right _ (List.mem_append_right _ (List.mem_append_right _ (List.mem_append_right _ (List.mem_append_right _ (List.mem_append_right _ (List.mem_append_right _ (List.mem_append_right _ (List.mem_append_right _ (List.mem_append_right _ (List.mem_append_right _ (List.mem_append_right _ (List.mem_append_right _ (List.mem_append_right _ (List.mem_append_right _ (List.mem_append_right _ (List.mem_append_right _ (List.mem_append_right _ (List.mem_append_left _ h)))))))))))))))))))))))))))))))))))))))))))))
theorem vm_r35 : ∀ w ∈ wsL_law_r35, w ∈ wsL_law := fun w h => List.mem_append_left _ (List.mem_append_left _ (List.mem_append_left _ (List.mem_append_left _ (List.mem_append_left _ (List.mem_append_left _ (List.mem_append_left _ (List.mem_append_left _ (List.mem_append_left _ (List.mem_append_left _ (List.mem_append_left _ (List.mem_append_left _ (List.mem_append_right _ (List.mem_append_right _ (List.mem_append_right _ (List.mem_append_right _ (List.mem_append_right _ (List.mem_append_right _ (List.mem_append_right _ (List.mem_append_right _ (List.mem_append_right _ (List.mem_append_right _ (List.mem_append_right _ (List.mem_append_right _ (List.mem_append_right _ (List.mem_append_right _ (List.mem_append_right _ (List.mem_append_right _ (List.mem_append_right _ (List.mem_append_right _ (List.mem_append_right _ (List.mem_append_right _ (List.mem_append_right _ (List.mem_append_right _ (List.mem_append_right _ (List.mem_append_right _ (List.mem_append_right _ (List.mem_append_right _ (List.mem_append_right _ (List.mem_append_right _ (List.mem_append_right _ (List.mem_append_right _ (List.mem_append_right _ (List.mem_append_right _ (List.mem_append_right _ (List.mem_append_right _ (List.mem_append_left _ h))))))))))))))))))))))))))))))))))))))))))))))
theorem vm_r36 : ∀ w ∈ wsL_law_r36, w ∈ wsL_law := fun w h => List.mem_append_left _ (List.mem_append_left _ (List.mem_append_left _ (List.mem_append_left _ (List.mem_append_left _ (List.mem_append_left _ (List.mem_append_left _ (List.mem_append_left _ (List.mem_append_left _ (List.mem_append_left _ (List.mem_append_left _ (List.mem_append_left _ (List.mem_append_right _ (List.mem_append_right _ (List.mem_append_right _ (List.mem_append_right _ (List.mem_append_right _ (List.mem_append_right _ (List.mem_append_right _ (List.mem_append_right _ (List.mem_append_right _ (List.mem_append_right _ (List.mem_append_right _ (List.mem_append_right _ (List.mem_append_right _ (List.mem_append_right _ (List.mem_append_right _ (List.mem_append_right _ (List.mem_append_right _ (List.mem_append_right _ (List.mem_append_right _ (List.mem_append_right _ (List.mem_append_right _ (List.mem_append_right _ (List.mem_append_right _ (List.mem_append_right _ (List.mem_append_right _ (List.mem_append_right _ (List.mem_append_right _ (List.mem_append_right _ (List.mem_append_right _ (List.mem_append_right _ (List.mem_append_right _ (List.mem_append_right _ (List.mem_append_right _ (List.mem_append_right _ (List.mem_append_right _ (List.mem_append_left _ h)))))))))))))))))))))))))))))))))))))))))))))))
theorem vm_r37 : ∀ w ∈ wsL_law_r37, w ∈ wsL_law := fun w h => List.mem_append_left _ (List.mem_append_left _ (List.mem_append_left _ (List.mem_append_left _ (List.mem_append_left _ (List.mem_append_left _ (List.mem_append_left _ (List.mem_append_left _ (List.mem_append_left _ (List.mem_append_left _ (List.mem_append_left _ (List.mem_append_left _ (List.mem_append_right _ (List.mem_append_right _ (List.mem_append_right _ (List.mem_append_right _ (List.mem_append_right _ (List.mem_append_right _ (List.mem_append_right _ (List.mem_append_right _ (List.mem_append_right _ (List.mem_append_right _ (List.mem_append_right _ (List.mem_append_right _ (List.mem_append_right _ (List.mem_append_right _ (List.mem_append_right _ (List.mem_append_right _ (List.mem_append_right _ (List.mem_append_right _ (List.mem_append_right _ (List.mem_append_right _ (List.mem_append_right _ (List.mem_append_right _ (List.mem_append_right _ (List.mem_append_right _ (List.mem_append_right _ (List.mem_append_right _ (List.mem_append_right _ (List.mem_append_right _ (List.mem_append_right _ (List.mem_append_right _ (List.mem_append_right _ (List.mem_append_right _ (List.mem_append_right _ (List.mem_append_right _ (List.mem_append_right _ (List.mem_append_right _ (List.mem_append_left _ h))))))))))))))))))))))))))))))))))))))))))))))))
theorem vm_r38 : ∀ w ∈ wsL_law_r38, w ∈ wsL_law := fun w h => List.mem_append_left _ (List.mem_append_left _ (List.mem_append_left _ (List.mem_append_left _ (List.mem_append_left _ (List.mem_append_left _ (List.mem_append_left _ (List.mem_append_left _ (List.mem_append_left _ (List.mem_append_left _ (List.mem_append_left _ (List.mem_append_left _ (List.mem_append_right _ (List.mem_append_right _ (List.mem_append_right _ (List.mem_append_right _ (List.mem_append_right _ (List.mem_append_right _ (List.mem_append_right _ (List.mem_append_right _ (List.mem_append_right _ (List.mem_append_right _ (List.mem_append_right _ (List.mem_append_right _ (List.mem_append_right _ (List.mem_append_right _ (List.mem_append_right _ (List.mem_append_right _ (List.mem_append_right _ (List.mem_append_right _ (List.mem_append_right _ (List.mem_append_right _ (List.mem_append_right _ (List.mem_append_right _ (List.mem_append_right _ (List.mem_append_right _ (List.mem_append_right _ (List.mem_append_right _ (List.mem_append_right _ (List.mem_append_right _ (List.mem_append_right _ (List.mem_append_right _ (List.mem_append_right _ (List.mem_append_right _ (List.mem_append_right _ (List.mem_append_right _ (List.mem_append_right _ (List.mem_append_right _ (List.mem_append_right _ (List.mem_append_left _ h)))))))))))))))))))))))))))))))))))))))))))))))))
theorem vm_r39 : ∀ w ∈ wsL_law_r39, w ∈ wsL_law := fun w h => List.mem_append_left _ (List.mem_append_left _ (List.mem_append_left _ (List.mem_append_left _ (List.mem_append_left _ (List.mem_append_left _ (List.mem_append_left _ (List.mem_append_left _ (List.mem_append_left _ (List.mem_append_left _ (List.mem_append_left _ (List.mem_append_left _ (List.mem_append_right _ (List.mem_append_right _ (List.mem_append_right _ (List.mem_append_right _ (List.mem_append_right _ (List.mem_append_right _ (List.mem_append_right _ (List.mem_append_right _ (List.mem_append_right _ (List.mem_append_right _ (List.mem_append_right _ (List.mem_append_right _ (List.mem_append_right _ (List.mem_append_right _ (List.mem_append_right _ (List.mem_append_right _ (List.mem_append_right _ (List.mem_append_right _ (List.mem_append_right _ (List.mem_append_right _ (List.mem_append_right _ (List.mem_append_right _ (List.mem_append_right _ (List.mem_append_right _ (List.mem_append_right _ (List.mem_append_right _ (List.mem_append_right _ (List.mem_append_right _ (List.mem_append_right _ (List.mem_append_right _ (List.mem_append_right _ (List.mem_append_right _ (List.mem_append_right _ (List.mem_append_right _ (List.mem_append_right _ (List.mem_append_right _ (List.mem_append_right _ (List.mem_append_right _ (List.mem_append_left _ h))))))))))))))))))))))))))))))))))))))))))))))))))
theorem vm_r40 : ∀ w ∈ wsL_law_r40, w ∈ wsL_law := fun w h => List.mem_append_left _ (List.mem_append_left _ (List.mem_append_left _ (List.mem_append_left _ (List.mem_append_left _ (List.mem_append_left _ (List.mem_append_left _ (List.mem_append_left _ (List.mem_append_left _ (List.mem_append_left _ (List.mem_append_left _ (List.mem_append_left _ (List.mem_append_right _ (List.mem_append_right _ (List.mem_append_right _ (List.mem_append_right _ (List.mem_append_right _ (List.mem_append_right _ (List.mem_append_right _ (List.mem_append_right _ (List.mem_append_right _ (List.mem_append_right _ (List.mem_append_right _ (List.mem_append_right _ (List.mem_append_right _ (List.mem_append_right _ (List.mem_append_right _ (List.mem_append_right _ (List.mem_append_right _ (List.mem_append_right _ (List.mem_append_right _ (List.mem_append_right _ (List.mem_append_right _ (List.mem_append_right _ (List.mem_append_right _ (List.mem_append_right _ (List.mem_append_right _ (List.mem_append_right _ (List.mem_append_right _ (List.mem_append_right _ (List.mem_append_right _ (List.mem_append_right _ (List.mem_append_right _ (List.mem_append_right _ (List.mem_append_right _ (List.mem_append_right _ (List.mem_append_right _ (List.mem_append_right _ (List.mem_append_right _ (List.mem_append_right _ (List.mem_append_right _ (List.mem_append_left _ h)))))))))))))))))))))))))))))))))))))))))))))))))))
theorem vm_r41 : ∀ w ∈ wsL_law_r41, w ∈ wsL_law := fun w h => List.mem_append_left _ (List.mem_append_left _ (List.mem_append_left _ (List.mem_append_left _ (List.mem_append_left _ (List.mem_append_left _ (List.mem_append_left _ (List.mem_append_left _ (List.mem_append_left _ (List.mem_append_left _ (List.mem_append_left _ (List.mem_append_left _ (List.mem_append_right _ (List.mem_append_right _ (List.mem_append_right _ (List.mem_append_right _ (List.mem_append_right _ (List.mem_append_right _ (List.mem_append_right _ (List.mem_append_right _ (List.mem_append_right _ (List.mem_append_right _ (List.mem_append_right _ (List.mem_append_right _ (List.mem_append_right _ (List.mem_append_right _ (List.mem_append_right _ (List.mem_append_right _ (List.mem_append_right _ (List.mem_append_right _ (List.mem_append_right _ (List.mem_append_right _ (List.mem_append_right _ (List.mem_append_right _ (List.mem_append_right _ (List.mem_append_right _ (List.mem_append_right _ (List.mem_append_right _ (List.mem_append_right _ (List.mem_append_right _ (List.mem_append_right _ (List.mem_append_right _ (List.mem_append_right _ (List.mem_append_right _ (List.mem_append_right _ (List.mem_append_right _ (List.mem_append_right _ (List.mem_append_right _ (List.mem_append_right _ (List.mem_append_right _ (List.mem_append_right _ (List.mem_append_right _ (List.mem_append_left _ h))))))))))))))))))))))))))))))))))))))))))))))))))))
theorem vm_r42 : ∀ w ∈ wsL_law_r42, w ∈ wsL_law := fun w h => List.mem_append_left _ (List.mem_append_left _ (List.mem_append_left _ (List.mem_append_left _ (List.mem_append_left _ (List.mem_append_left _ (List.mem_append_left _ (List.mem_append_left _ (List.mem_append_left _ (List.mem_append_left _ (List.mem_append_left _ (List.mem_append_left _ (List.mem_append_right _ (List.mem_append_right _ (List.mem_append_right _ (List.mem_append_right _ (List.mem_append_right _ (List.mem_append_right _ (List.mem_append_right _ (List.mem_append_right _ (List.mem_append_right _ (List.mem_append_right _ (List.mem_append_right _ (List.mem_append_right _ (List.mem_append_right _ (List.mem_append_right _ (List.mem_append_right _ (List.mem_append_right _ (List.mem_append_right _ (List.mem_append_right _ (List.mem_append_right _ (List.mem_append_right _ (List.mem_append_right _ (List.mem_append_right _ (List.mem_append_right _ (List.mem_append_right _ (List.mem_append_right _ (List.mem_append_right _ (List.mem_append_right _ (List.mem_append_right _ (List.mem_append_right _ (List.mem_append_right _ (List.mem_append_right _ (List.mem_append_right _ (List.mem_append_right _ (List.mem_append_right _ (List.mem_append_right _ (List.mem_append_right _ (List.mem_append_right _ (List.mem_append_right _ (List.mem_append_right _ (List.mem_append_right _ (List.mem_append_right _ (List.mem_append_left _ h)))))))))))))))))))))))))))))))))))))))))))))))))))))
theorem vm_r43 : ∀ w ∈ wsL_law_r43, w ∈ wsL_law := fun w h => List.mem_append_left _ (List.mem_append_left _ (List.mem_append_left _ (List.mem_append_left _ (List.mem_append_left _ (List.mem_append_left _ (List.mem_append_left _ (List.mem_append_left _ (List.mem_append_left _ (List.mem_append_left _ (List.mem_append_left _ (List.mem_append_left _ (List.mem_append_right _ (List.mem_append_right _ (List.mem_append_right _ (List.mem_append_right _ (List.mem_append_right _ (List.mem_append_right _ (List.mem_append_right _ (List.mem_append_right _ (List.mem_append_right _ (List.mem_append_right _ (List.mem_append_right _ (List.mem_append_right _ (List.mem_append_right _ (List.mem_append_right _ (List.mem_append_right _ (List.mem_append_right _ (List.mem_append_right _ (List.mem_append_right _ (List.mem_append_right _ (List.mem_append_right _ (List.mem_append_right _ (List.mem_append_right _ (List.mem_append_right _ (List.mem_append_right _ (List.mem_append_right _ (List.mem_append_right _ (List.mem_append_right _ (List.mem_append_right _ (List.mem_append_right _ (List.mem_append_right _ (List.mem_append_right _ (List.mem_append_right _ (List.mem_append_right _ (List.mem_append_right _ (List.mem_append_right _ (List.mem_append_right _ (List.mem_append_right _ (List.mem_append_right _ (List.mem_append_right _ (List.mem_append_right _ (List.mem_append_right _ (List.mem_append_right _ (List.mem_append_left _ h))))))))))))))))))))))))))))))))))))))))))))))))))))))
theorem vm_r44 : ∀ w ∈ wsL_law_r44, w ∈ wsL_law := fun w h => List.mem_append_left _ (List.mem_append_left _ (List.mem_append_left _ (List.mem_append_left _ (List.mem_append_left _ (List.mem_append_left _ (List.mem_append_left _ (List.mem_append_left _ (List.mem_append_left _ (List.mem_append_left _ (List.mem_append_left _ (List.mem_append_left _ (List.mem_append_right _ (List.mem_append_right _ (List.mem_append_right _ (List.mem_append_right _ (List.mem_append_right _ (List.mem_append_right _ (List.mem_append_right _ (List.mem_append_right _ (List.mem_append_right _ (List.mem_append_right _ (List.mem_append_right _ (List.mem_append_right _ (List.mem_append_right _ (List.mem_append_right _ (List.mem_append_right _ (List.mem_append_right _ (List.mem_append_right _ (List.mem_append_right _ (List.mem_append_right _ (List.mem_append_right _ (List.mem_append_right _ (List.mem_append_right _ (List.mem_append_right _ (List.mem_append_right _ (List.mem_append_right _ (List.mem_append_right _ (List.mem_append_right _ (List.mem_append_right _ (List.mem_append_right _ (List.mem_append_right _ (List.mem_append_right _ (List.mem_append_right _ (List.mem_append_right _ (List.mem_append_right _ (List.mem_append_right _ (List.mem_append_right _ (List.mem_append_right _ (List.mem_append_right _ (List.mem_append_right _ (List.mem_append_right _ (List.mem_append_right _ (List.mem_append_right _ (List.mem_append_right _ (List.mem_append_left _ h)))))))))))))))))))))))))))))))))))))))))))))))))))))))
theorem vm_r45 : ∀ w ∈ wsL_law_r45, w ∈ wsL_law := fun w h => List.mem_append_left _ (List.mem_append_left _ (List.mem_append_left _ (List.mem_append_left _ (List.mem_append_left _ (List.mem_append_left _ (List.mem_append_left _ (List.mem_append_left _ (List.mem_append_left _ (List.mem_append_left _ (List.mem_append_left _ (List.mem_append_left _ (List.mem_append_right _ (List.mem_append_right _ (List.mem_append_right _ (List.mem_append_right _ (List.mem_append_right _ (List.mem_append_right _ (List.mem_append_right _ (List.mem_append_right _ (List.mem_append_right _ (List.mem_append_right _ (List.mem_append_right _ (List.mem_append_right _ (List.mem_append_right _ (List.mem_append_right _ (List.mem_append_right _ (List.mem_append_right _ (List.mem_append_right _ (List.mem_append_right _ (List.mem_append_right _ (List.mem_append_right _ (List.mem_append_right _ (List.mem_append_right _ (List.mem_append_right _ (List.mem_append_right _ (List.mem_append_right _ (List.mem_append_right _ (List.mem_append_right _ (List.mem_append_right _ (List.mem_append_right _ (List.mem_append_right _ (List.mem_append_right _ (List.mem_append_right _ (List.mem_append_right _ (List.mem_append_right _ (List.mem_append_right _ (List.mem_append_right _ (List.mem_append_right _ (List.mem_append_right _ (List.mem_append_right _ (List.mem_append_right _ (List.mem_append_right _ (List.mem_append_right _ (List.mem_append_right _ (List.mem_append_right _ (h))))))))))))))))))))))))))))))))))))))))))))))))))))))))
end
section
/-! the program as tables: methods by number, instructions with their links resolved; the checks that tie them to the bytes and the words -/
abbrev vm_I : Type := Nat × Instr × Nat × Nat × Nat × Nat
abbrev vm_M : Type := String × MethodName × ByteArray × Nat × Option FieldType × List vm_I
def vm_nm : List String := [RX0, RX1, RX2, RX3, RX4, RX5, RX6, RX7, RX8, RX9, RX10, RX11, RL, "java/lang/Math"]
def vm_k0 : List vm_I := [(0, .aload_n 0, 1, 0, 0, 0), (1, .invokespecial 3, 3, 5, 0, 0), (4, .aload_n 0, 1, 0, 0, 0), (5, .new 9, 3, 5, 0, 0), (8, .dup, 1, 0, 0, 0), (9, .bipush 32, 2, 0, 0, 0), (11, .invokespecial 13, 3, 2, 54, 1), (14, .putfield 16, 3, 0, 1, 0), (17, .aload_n 0, 1, 0, 0, 0), (18, .aload_n 1, 1, 0, 0, 0), (19, .putfield 20, 3, 0, 0, 0), (22, .return_, 1, 0, 0, 0)]
def vm_m0 : vm_M := (RX0, yX0_init, cX0_init, 2, none, vm_k0)
def vm_k1 : List vm_I := [(0, .aload_n 0, 1, 0, 0, 0), (1, .getfield 16, 3, 0, 1, 0), (4, .invokevirtual 24, 3, 0, 57, 500), (7, .aload_n 0, 1, 0, 0, 0), (8, .iconst 0, 1, 0, 0, 0), (9, .putfield 27, 3, 0, 2, 0), (12, .return_, 1, 0, 0, 0)]
def vm_m1 : vm_M := (RX0, yX0_clear, cX0_clear, 1, none, vm_k1)
def vm_k2 : List vm_I := [(0, .aload_n 0, 1, 0, 0, 0), (1, .getfield 16, 3, 0, 1, 0), (4, .aload_n 1, 1, 0, 0, 0), (5, .getfield 16, 3, 0, 1, 0), (8, .invokevirtual 31, 3, 0, 62, 501), (11, .aload_n 0, 1, 0, 0, 0), (12, .aload_n 1, 1, 0, 0, 0), (13, .getfield 27, 3, 0, 2, 0), (16, .putfield 27, 3, 0, 2, 0), (19, .return_, 1, 0, 0, 0)]
def vm_m2 : vm_M := (RX0, yX0_become, cX0_become, 2, none, vm_k2)
def vm_k3 : List vm_I := [(0, .aload_n 0, 1, 0, 0, 0), (1, .getfield 16, 3, 0, 1, 0), (4, .invokevirtual 35, 3, 0, 56, 500), (7, .ifCond .ne 32, 3, 0, 0, 0), (10, .aload_n 0, 1, 0, 0, 0), (11, .getfield 20, 3, 0, 0, 0), (14, .aload_n 1, 1, 0, 0, 0), (15, .iconst 0, 1, 0, 0, 0), (16, .invokevirtual 39, 3, 0, 59, 501), (19, .invokevirtual 43, 3, 0, 76, 701), (22, .ifCond .eq 17, 3, 0, 0, 0), (25, .aload_n 1, 1, 0, 0, 0), (26, .iconst 1, 1, 0, 0, 0), (27, .invokevirtual 39, 3, 0, 59, 501), (30, .iconst 1, 1, 0, 0, 0), (31, .bipush 20, 2, 0, 0, 0), (33, .invokestatic 49, 3, 3, 126, 3), (36, .ifCond .ne 5, 3, 0, 0, 0), (39, .iconst 0, 1, 0, 0, 0), (40, .ireturn, 1, 0, 0, 0), (41, .iconst 0, 1, 0, 0, 0), (42, .istore_n 2, 1, 0, 0, 0), (43, .iload_n 2, 1, 0, 0, 0), (44, .iconst 4, 1, 0, 0, 0), (45, .if_icmp .ge 27, 3, 0, 0, 0), (48, .aload_n 1, 1, 0, 0, 0), (49, .iconst 2, 1, 0, 0, 0), (50, .iload_n 2, 1, 0, 0, 0), (51, .iadd, 1, 0, 0, 0), (52, .invokevirtual 39, 3, 0, 59, 501), (55, .iconst 0, 1, 0, 0, 0), (56, .bipush 9, 2, 0, 0, 0), (58, .invokestatic 49, 3, 3, 126, 3), (61, .ifCond .ne 5, 3, 0, 0, 0), (64, .iconst 0, 1, 0, 0, 0), (65, .ireturn, 1, 0, 0, 0), (66, .iinc 2 1, 3, 0, 0, 0), (69, .goto (-26), 3, 0, 0, 0), (72, .aload_n 0, 1, 0, 0, 0), (73, .getfield 16, 3, 0, 1, 0), (76, .aload_n 1, 1, 0, 0, 0), (77, .iconst 1, 1, 0, 0, 0), (78, .invokevirtual 39, 3, 0, 59, 501), (81, .invokevirtual 53, 3, 0, 58, 501), (84, .aload_n 0, 1, 0, 0, 0), (85, .getfield 16, 3, 0, 1, 0), (88, .aload_n 1, 1, 0, 0, 0), (89, .iconst 0, 1, 0, 0, 0), (90, .invokevirtual 39, 3, 0, 59, 501), (93, .invokevirtual 53, 3, 0, 58, 501), (96, .iconst 0, 1, 0, 0, 0), (97, .istore_n 2, 1, 0, 0, 0), (98, .iload_n 2, 1, 0, 0, 0), (99, .iconst 4, 1, 0, 0, 0), (100, .if_icmp .ge 23, 3, 0, 0, 0), (103, .aload_n 0, 1, 0, 0, 0), (104, .getfield 16, 3, 0, 1, 0), (107, .aload_n 1, 1, 0, 0, 0), (108, .iconst 2, 1, 0, 0, 0), (109, .iload_n 2, 1, 0, 0, 0), (110, .iadd, 1, 0, 0, 0), (111, .invokevirtual 39, 3, 0, 59, 501), (114, .invokevirtual 53, 3, 0, 58, 501), (117, .iinc 2 1, 3, 0, 0, 0), (120, .goto (-22), 3, 0, 0, 0), (123, .aload_n 0, 1, 0, 0, 0), (124, .getfield 16, 3, 0, 1, 0), (127, .bipush (-4), 2, 0, 0, 0), (129, .invokevirtual 53, 3, 0, 58, 501), (132, .aload_n 0, 1, 0, 0, 0), (133, .getfield 16, 3, 0, 1, 0), (136, .iconst 0, 1, 0, 0, 0), (137, .invokevirtual 53, 3, 0, 58, 501), (140, .iconst 1, 1, 0, 0, 0), (141, .ireturn, 1, 0, 0, 0)]
def vm_m3 : vm_M := (RX0, yX0_addCompany, cX0_addCompany, 3, (some .boolean), vm_k3)
def vm_k4 : List vm_I := [(0, .aload_n 0, 1, 0, 0, 0), (1, .getfield 16, 3, 0, 1, 0), (4, .invokevirtual 56, 3, 0, 55, 500), (7, .bipush 8, 2, 0, 0, 0), (9, .idiv, 1, 0, 0, 0), (10, .ireturn, 1, 0, 0, 0)]
def vm_m4 : vm_M := (RX0, yX0_companies, cX0_companies, 1, (some .int), vm_k4)
def vm_k5 : List vm_I := [(0, .aload_n 0, 1, 0, 0, 0), (1, .getfield 27, 3, 0, 2, 0), (4, .ireturn, 1, 0, 0, 0)]
def vm_m5 : vm_M := (RX0, yX0_hours, cX0_hours, 1, (some .int), vm_k5)
def vm_k6 : List vm_I := [(0, .iload_n 1, 1, 0, 0, 0), (1, .iconst 0, 1, 0, 0, 0), (2, .aload_n 0, 1, 0, 0, 0), (3, .invokevirtual 60, 3, 0, 4, 0), (6, .iconst 1, 1, 0, 0, 0), (7, .isub, 1, 0, 0, 0), (8, .invokestatic 49, 3, 3, 126, 3), (11, .ireturn, 1, 0, 0, 0)]
def vm_m6 : vm_M := (RX0, yX0_isCompany, cX0_isCompany, 2, (some .boolean), vm_k6)
def vm_k7 : List vm_I := [(0, .aload_n 0, 1, 0, 0, 0), (1, .getfield 16, 3, 0, 1, 0), (4, .iload_n 1, 1, 0, 0, 0), (5, .bipush 8, 2, 0, 0, 0), (7, .imul, 1, 0, 0, 0), (8, .iload_n 2, 1, 0, 0, 0), (9, .iadd, 1, 0, 0, 0), (10, .invokevirtual 39, 3, 0, 59, 501), (13, .ireturn, 1, 0, 0, 0)]
def vm_m7 : vm_M := (RX0, yX0_get, cX0_get, 3, (some .int), vm_k7)
def vm_k8 : List vm_I := [(0, .aload_n 0, 1, 0, 0, 0), (1, .getfield 16, 3, 0, 1, 0), (4, .iload_n 1, 1, 0, 0, 0), (5, .bipush 8, 2, 0, 0, 0), (7, .imul, 1, 0, 0, 0), (8, .iload_n 2, 1, 0, 0, 0), (9, .iadd, 1, 0, 0, 0), (10, .iload_n 3, 1, 0, 0, 0), (11, .invokevirtual 63, 3, 0, 60, 502), (14, .return_, 1, 0, 0, 0)]
def vm_m8 : vm_M := (RX0, yX0_set, cX0_set, 4, none, vm_k8)
def vm_k9 : List vm_I := [(0, .aload_n 0, 1, 0, 0, 0), (1, .iload_n 1, 1, 0, 0, 0), (2, .iload_n 2, 1, 0, 0, 0), (3, .aload_n 0, 1, 0, 0, 0), (4, .iload_n 1, 1, 0, 0, 0), (5, .iload_n 2, 1, 0, 0, 0), (6, .invokevirtual 67, 3, 0, 7, 2), (9, .iload_n 3, 1, 0, 0, 0), (10, .iadd, 1, 0, 0, 0), (11, .invokevirtual 70, 3, 0, 8, 3), (14, .return_, 1, 0, 0, 0)]
def vm_m9 : vm_M := (RX0, yX0_change, cX0_change, 4, none, vm_k9)
def vm_k10 : List vm_I := [(0, .aload_n 0, 1, 0, 0, 0), (1, .iload_n 1, 1, 0, 0, 0), (2, .iconst 0, 1, 0, 0, 0), (3, .invokevirtual 67, 3, 0, 7, 2), (6, .iconst 1, 1, 0, 0, 0), (7, .if_icmp .lt 7, 3, 0, 0, 0), (10, .iconst 1, 1, 0, 0, 0), (11, .goto 4, 3, 0, 0, 0), (14, .iconst 0, 1, 0, 0, 0), (15, .ireturn, 1, 0, 0, 0)]
def vm_m10 : vm_M := (RX0, yX0_isIn, cX0_isIn, 2, (some .boolean), vm_k10)
def vm_k11 : List vm_I := [(0, .aload_n 0, 1, 0, 0, 0), (1, .iload_n 1, 1, 0, 0, 0), (2, .invokevirtual 73, 3, 0, 10, 1), (5, .ifCond .eq 19, 3, 0, 0, 0), (8, .aload_n 0, 1, 0, 0, 0), (9, .iload_n 1, 1, 0, 0, 0), (10, .iconst 2, 1, 0, 0, 0), (11, .iload_n 2, 1, 0, 0, 0), (12, .iadd, 1, 0, 0, 0), (13, .invokevirtual 67, 3, 0, 7, 2), (16, .iconst 1, 1, 0, 0, 0), (17, .if_icmp .lt 7, 3, 0, 0, 0), (20, .iconst 1, 1, 0, 0, 0), (21, .goto 4, 3, 0, 0, 0), (24, .iconst 0, 1, 0, 0, 0), (25, .ireturn, 1, 0, 0, 0)]
def vm_m11 : vm_M := (RX0, yX0_canFeed, cX0_canFeed, 3, (some .boolean), vm_k11)
def vm_k12 : List vm_I := [(0, .aload_n 0, 1, 0, 0, 0), (1, .iload_n 1, 1, 0, 0, 0), (2, .iconst 2, 1, 0, 0, 0), (3, .iload_n 2, 1, 0, 0, 0), (4, .iadd, 1, 0, 0, 0), (5, .iconst (-1), 1, 0, 0, 0), (6, .invokevirtual 76, 3, 0, 9, 3), (9, .aload_n 0, 1, 0, 0, 0), (10, .iload_n 1, 1, 0, 0, 0), (11, .aload_n 0, 1, 0, 0, 0), (12, .iload_n 1, 1, 0, 0, 0), (13, .iconst 0, 1, 0, 0, 0), (14, .invokevirtual 67, 3, 0, 7, 2), (17, .iload_n 2, 1, 0, 0, 0), (18, .invokestatic 79, 3, 1, 30, 2), (21, .invokevirtual 84, 3, 0, 13, 2), (24, .aload_n 0, 1, 0, 0, 0), (25, .iload_n 1, 1, 0, 0, 0), (26, .invokevirtual 73, 3, 0, 10, 1), (29, .ifCond .ne 4, 3, 0, 0, 0), (32, .return_, 1, 0, 0, 0), (33, .aload_n 0, 1, 0, 0, 0), (34, .iload_n 1, 1, 0, 0, 0), (35, .bipush 6, 2, 0, 0, 0), (37, .iload_n 2, 1, 0, 0, 0), (38, .invokevirtual 70, 3, 0, 8, 3), (41, .aload_n 0, 1, 0, 0, 0), (42, .getfield 20, 3, 0, 0, 0), (45, .aload_n 0, 1, 0, 0, 0), (46, .iload_n 1, 1, 0, 0, 0), (47, .iconst 1, 1, 0, 0, 0), (48, .invokevirtual 67, 3, 0, 7, 2), (51, .iload_n 2, 1, 0, 0, 0), (52, .invokevirtual 87, 3, 0, 78, 702), (55, .istore_n 3, 1, 0, 0, 0), (56, .iload_n 3, 1, 0, 0, 0), (57, .bipush (-4), 2, 0, 0, 0), (59, .if_icmp .eq 18, 3, 0, 0, 0), (62, .aload_n 0, 1, 0, 0, 0), (63, .iload_n 1, 1, 0, 0, 0), (64, .iconst 1, 1, 0, 0, 0), (65, .iload_n 3, 1, 0, 0, 0), (66, .invokevirtual 70, 3, 0, 8, 3), (69, .aload_n 0, 1, 0, 0, 0), (70, .iload_n 1, 1, 0, 0, 0), (71, .bipush 7, 2, 0, 0, 0), (73, .iconst 1, 1, 0, 0, 0), (74, .invokevirtual 76, 3, 0, 9, 3), (77, .return_, 1, 0, 0, 0)]
def vm_m12 : vm_M := (RX0, yX0_feed, cX0_feed, 4, none, vm_k12)
def vm_k13 : List vm_I := [(0, .aload_n 0, 1, 0, 0, 0), (1, .iload_n 1, 1, 0, 0, 0), (2, .iconst 0, 1, 0, 0, 0), (3, .iload_n 2, 1, 0, 0, 0), (4, .invokevirtual 70, 3, 0, 8, 3), (7, .iload_n 2, 1, 0, 0, 0), (8, .iconst 1, 1, 0, 0, 0), (9, .if_icmp .ge 20, 3, 0, 0, 0), (12, .aload_n 0, 1, 0, 0, 0), (13, .iload_n 1, 1, 0, 0, 0), (14, .iconst 1, 1, 0, 0, 0), (15, .bipush (-4), 2, 0, 0, 0), (17, .invokevirtual 70, 3, 0, 8, 3), (20, .aload_n 0, 1, 0, 0, 0), (21, .iload_n 1, 1, 0, 0, 0), (22, .bipush 6, 2, 0, 0, 0), (24, .bipush (-4), 2, 0, 0, 0), (26, .invokevirtual 70, 3, 0, 8, 3), (29, .return_, 1, 0, 0, 0)]
def vm_m13 : vm_M := (RX0, yX0_setHot, cX0_setHot, 3, none, vm_k13)
def vm_k14 : List vm_I := [(0, .aload_n 0, 1, 0, 0, 0), (1, .getfield 20, 3, 0, 0, 0), (4, .aload_n 0, 1, 0, 0, 0), (5, .getfield 27, 3, 0, 2, 0), (8, .invokevirtual 90, 3, 0, 80, 701), (11, .istore_n 1, 1, 0, 0, 0), (12, .iconst 0, 1, 0, 0, 0), (13, .istore_n 2, 1, 0, 0, 0), (14, .iload_n 2, 1, 0, 0, 0), (15, .aload_n 0, 1, 0, 0, 0), (16, .invokevirtual 60, 3, 0, 4, 0), (19, .if_icmp .ge 39, 3, 0, 0, 0), (22, .aload_n 0, 1, 0, 0, 0), (23, .iload_n 2, 1, 0, 0, 0), (24, .invokevirtual 73, 3, 0, 10, 1), (27, .ifCond .eq 25, 3, 0, 0, 0), (30, .aload_n 0, 1, 0, 0, 0), (31, .iload_n 2, 1, 0, 0, 0), (32, .aload_n 0, 1, 0, 0, 0), (33, .iload_n 2, 1, 0, 0, 0), (34, .iconst 0, 1, 0, 0, 0), (35, .invokevirtual 67, 3, 0, 7, 2), (38, .aload_n 0, 1, 0, 0, 0), (39, .iload_n 2, 1, 0, 0, 0), (40, .bipush 6, 2, 0, 0, 0), (42, .invokevirtual 67, 3, 0, 7, 2), (45, .iload_n 1, 1, 0, 0, 0), (46, .invokestatic 93, 3, 1, 31, 3), (49, .invokevirtual 84, 3, 0, 13, 2), (52, .iinc 2 1, 3, 0, 0, 0), (55, .goto (-41), 3, 0, 0, 0), (58, .aload_n 0, 1, 0, 0, 0), (59, .dup, 1, 0, 0, 0), (60, .getfield 27, 3, 0, 2, 0), (63, .iconst 1, 1, 0, 0, 0), (64, .iadd, 1, 0, 0, 0), (65, .putfield 27, 3, 0, 2, 0), (68, .return_, 1, 0, 0, 0)]
def vm_m14 : vm_M := (RX0, yX0_burnAnHour, cX0_burnAnHour, 3, none, vm_k14)
def vm_k15 : List vm_I := [(0, .aload_n 0, 1, 0, 0, 0), (1, .iload_n 1, 1, 0, 0, 0), (2, .invokevirtual 73, 3, 0, 10, 1), (5, .ifCond .ne 17, 3, 0, 0, 0), (8, .aload_n 0, 1, 0, 0, 0), (9, .iload_n 2, 1, 0, 0, 0), (10, .iconst 0, 1, 0, 0, 0), (11, .invokevirtual 67, 3, 0, 7, 2), (14, .iconst 4, 1, 0, 0, 0), (15, .if_icmp .lt 7, 3, 0, 0, 0), (18, .iconst 1, 1, 0, 0, 0), (19, .goto 4, 3, 0, 0, 0), (22, .iconst 0, 1, 0, 0, 0), (23, .ireturn, 1, 0, 0, 0)]
def vm_m15 : vm_M := (RX0, yX0_canKindle, cX0_canKindle, 3, (some .boolean), vm_k15)
def vm_k16 : List vm_I := [(0, .aload_n 0, 1, 0, 0, 0), (1, .iload_n 2, 1, 0, 0, 0), (2, .iconst 0, 1, 0, 0, 0), (3, .iconst (-1), 1, 0, 0, 0), (4, .invokevirtual 76, 3, 0, 9, 3), (7, .aload_n 0, 1, 0, 0, 0), (8, .iload_n 1, 1, 0, 0, 0), (9, .iconst 0, 1, 0, 0, 0), (10, .iconst 3, 1, 0, 0, 0), (11, .invokevirtual 70, 3, 0, 8, 3), (14, .aload_n 0, 1, 0, 0, 0), (15, .iload_n 1, 1, 0, 0, 0), (16, .iconst 1, 1, 0, 0, 0), (17, .aload_n 0, 1, 0, 0, 0), (18, .iload_n 2, 1, 0, 0, 0), (19, .iconst 1, 1, 0, 0, 0), (20, .invokevirtual 67, 3, 0, 7, 2), (23, .invokevirtual 70, 3, 0, 8, 3), (26, .aload_n 0, 1, 0, 0, 0), (27, .iload_n 1, 1, 0, 0, 0), (28, .bipush 6, 2, 0, 0, 0), (30, .bipush (-4), 2, 0, 0, 0), (32, .invokevirtual 70, 3, 0, 8, 3), (35, .return_, 1, 0, 0, 0)]
def vm_m16 : vm_M := (RX0, yX0_kindle, cX0_kindle, 3, none, vm_k16)
def vm_k17 : List vm_I := [(0, .aload_n 0, 1, 0, 0, 0), (1, .iload_n 1, 1, 0, 0, 0), (2, .iconst 0, 1, 0, 0, 0), (3, .bipush 20, 2, 0, 0, 0), (5, .aload_n 0, 1, 0, 0, 0), (6, .iload_n 1, 1, 0, 0, 0), (7, .iconst 0, 1, 0, 0, 0), (8, .invokevirtual 67, 3, 0, 7, 2), (11, .aload_n 0, 1, 0, 0, 0), (12, .iload_n 2, 1, 0, 0, 0), (13, .iconst 0, 1, 0, 0, 0), (14, .invokevirtual 67, 3, 0, 7, 2), (17, .iadd, 1, 0, 0, 0), (18, .invokestatic 97, 3, 1, 203, 2), (21, .invokevirtual 70, 3, 0, 8, 3), (24, .aload_n 0, 1, 0, 0, 0), (25, .iload_n 1, 1, 0, 0, 0), (26, .iconst 1, 1, 0, 0, 0), (27, .aload_n 0, 1, 0, 0, 0), (28, .iload_n 1, 1, 0, 0, 0), (29, .iconst 1, 1, 0, 0, 0), (30, .invokevirtual 67, 3, 0, 7, 2), (33, .aload_n 0, 1, 0, 0, 0), (34, .iload_n 2, 1, 0, 0, 0), (35, .iconst 1, 1, 0, 0, 0), (36, .invokevirtual 67, 3, 0, 7, 2), (39, .invokestatic 97, 3, 1, 203, 2), (42, .invokevirtual 70, 3, 0, 8, 3), (45, .iconst 0, 1, 0, 0, 0), (46, .istore_n 3, 1, 0, 0, 0), (47, .iload_n 3, 1, 0, 0, 0), (48, .iconst 4, 1, 0, 0, 0), (49, .if_icmp .ge 52, 3, 0, 0, 0), (52, .aload_n 0, 1, 0, 0, 0), (53, .iload_n 1, 1, 0, 0, 0), (54, .iconst 2, 1, 0, 0, 0), (55, .iload_n 3, 1, 0, 0, 0), (56, .iadd, 1, 0, 0, 0), (57, .invokevirtual 67, 3, 0, 7, 2), (60, .aload_n 0, 1, 0, 0, 0), (61, .iload_n 2, 1, 0, 0, 0), (62, .iconst 2, 1, 0, 0, 0), (63, .iload_n 3, 1, 0, 0, 0), (64, .iadd, 1, 0, 0, 0), (65, .invokevirtual 67, 3, 0, 7, 2), (68, .iadd, 1, 0, 0, 0), (69, .istore 4, 2, 0, 0, 0), (71, .aload_n 0, 1, 0, 0, 0), (72, .iload_n 1, 1, 0, 0, 0), (73, .iconst 2, 1, 0, 0, 0), (74, .iload_n 3, 1, 0, 0, 0), (75, .iadd, 1, 0, 0, 0), (76, .bipush 99, 2, 0, 0, 0), (78, .iload 4, 2, 0, 0, 0), (80, .invokestatic 97, 3, 1, 203, 2), (83, .invokevirtual 70, 3, 0, 8, 3), (86, .aload_n 0, 1, 0, 0, 0), (87, .iload_n 2, 1, 0, 0, 0), (88, .iconst 2, 1, 0, 0, 0), (89, .iload_n 3, 1, 0, 0, 0), (90, .iadd, 1, 0, 0, 0), (91, .iconst 0, 1, 0, 0, 0), (92, .invokevirtual 70, 3, 0, 8, 3), (95, .iinc 3 1, 3, 0, 0, 0), (98, .goto (-51), 3, 0, 0, 0), (101, .aload_n 0, 1, 0, 0, 0), (102, .iload_n 2, 1, 0, 0, 0), (103, .iconst 0, 1, 0, 0, 0), (104, .invokevirtual 84, 3, 0, 13, 2), (107, .return_, 1, 0, 0, 0)]
def vm_m17 : vm_M := (RX0, yX0_merge, cX0_merge, 5, none, vm_k17)
def vm_k18 : List vm_I := [(0, .aload_n 0, 1, 0, 0, 0), (1, .iload_n 1, 1, 0, 0, 0), (2, .iconst 2, 1, 0, 0, 0), (3, .iload_n 3, 1, 0, 0, 0), (4, .iadd, 1, 0, 0, 0), (5, .invokevirtual 67, 3, 0, 7, 2), (8, .iconst 1, 1, 0, 0, 0), (9, .if_icmp .lt 20, 3, 0, 0, 0), (12, .aload_n 0, 1, 0, 0, 0), (13, .iload_n 2, 1, 0, 0, 0), (14, .iconst 2, 1, 0, 0, 0), (15, .iload_n 3, 1, 0, 0, 0), (16, .iadd, 1, 0, 0, 0), (17, .invokevirtual 67, 3, 0, 7, 2), (20, .bipush 99, 2, 0, 0, 0), (22, .if_icmp .ge 7, 3, 0, 0, 0), (25, .iconst 1, 1, 0, 0, 0), (26, .goto 4, 3, 0, 0, 0), (29, .iconst 0, 1, 0, 0, 0), (30, .ireturn, 1, 0, 0, 0)]
def vm_m18 : vm_M := (RX0, yX0_canMove, cX0_canMove, 4, (some .boolean), vm_k18)
def vm_k19 : List vm_I := [(0, .aload_n 0, 1, 0, 0, 0), (1, .iload_n 1, 1, 0, 0, 0), (2, .iconst 2, 1, 0, 0, 0), (3, .iload_n 3, 1, 0, 0, 0), (4, .iadd, 1, 0, 0, 0), (5, .iconst (-1), 1, 0, 0, 0), (6, .invokevirtual 76, 3, 0, 9, 3), (9, .aload_n 0, 1, 0, 0, 0), (10, .iload_n 2, 1, 0, 0, 0), (11, .iconst 2, 1, 0, 0, 0), (12, .iload_n 3, 1, 0, 0, 0), (13, .iadd, 1, 0, 0, 0), (14, .iconst 1, 1, 0, 0, 0), (15, .invokevirtual 76, 3, 0, 9, 3), (18, .return_, 1, 0, 0, 0)]
def vm_m19 : vm_M := (RX0, yX0_move, cX0_move, 4, none, vm_k19)
def vm_k20 : List vm_I := [(0, .aload_n 0, 1, 0, 0, 0), (1, .iload_n 1, 1, 0, 0, 0), (2, .iconst 0, 1, 0, 0, 0), (3, .invokevirtual 67, 3, 0, 7, 2), (6, .istore_n 2, 1, 0, 0, 0), (7, .iconst 0, 1, 0, 0, 0), (8, .istore_n 3, 1, 0, 0, 0), (9, .iload_n 3, 1, 0, 0, 0), (10, .bipush 60, 2, 0, 0, 0), (12, .if_icmp .gt 41, 3, 0, 0, 0), (15, .iload_n 2, 1, 0, 0, 0), (16, .iconst 1, 1, 0, 0, 0), (17, .if_icmp .ge 5, 3, 0, 0, 0), (20, .iload_n 3, 1, 0, 0, 0), (21, .ireturn, 1, 0, 0, 0), (22, .iload_n 2, 1, 0, 0, 0), (23, .aload_n 0, 1, 0, 0, 0), (24, .iload_n 1, 1, 0, 0, 0), (25, .bipush 6, 2, 0, 0, 0), (27, .invokevirtual 67, 3, 0, 7, 2), (30, .aload_n 0, 1, 0, 0, 0), (31, .getfield 20, 3, 0, 0, 0), (34, .aload_n 0, 1, 0, 0, 0), (35, .getfield 27, 3, 0, 2, 0), (38, .iload_n 3, 1, 0, 0, 0), (39, .iadd, 1, 0, 0, 0), (40, .invokevirtual 90, 3, 0, 80, 701), (43, .invokestatic 93, 3, 1, 31, 3), (46, .istore_n 2, 1, 0, 0, 0), (47, .iinc 3 1, 3, 0, 0, 0), (50, .goto (-41), 3, 0, 0, 0), (53, .bipush (-4), 2, 0, 0, 0), (55, .ireturn, 1, 0, 0, 0)]
def vm_m20 : vm_M := (RX0, yX0_hoursLeft, cX0_hoursLeft, 4, (some .int), vm_k20)
def vm_k21 : List vm_I := [(0, .aload_n 0, 1, 0, 0, 0), (1, .invokevirtual 60, 3, 0, 4, 0), (4, .istore_n 2, 1, 0, 0, 0), (5, .iload_n 2, 1, 0, 0, 0), (6, .iconst 1, 1, 0, 0, 0), (7, .if_icmp .ge 4, 3, 0, 0, 0), (10, .return_, 1, 0, 0, 0), (11, .iload_n 1, 1, 0, 0, 0), (12, .bipush 8, 2, 0, 0, 0), (14, .irem, 1, 0, 0, 0), (15, .istore_n 3, 1, 0, 0, 0), (16, .iload_n 1, 1, 0, 0, 0), (17, .bipush 8, 2, 0, 0, 0), (19, .idiv, 1, 0, 0, 0), (20, .iload_n 2, 1, 0, 0, 0), (21, .irem, 1, 0, 0, 0), (22, .istore 4, 2, 0, 0, 0), (24, .iload_n 1, 1, 0, 0, 0), (25, .bipush 64, 2, 0, 0, 0), (27, .idiv, 1, 0, 0, 0), (28, .iconst 4, 1, 0, 0, 0), (29, .irem, 1, 0, 0, 0), (30, .istore 5, 2, 0, 0, 0), (32, .iload_n 1, 1, 0, 0, 0), (33, .bipush 64, 2, 0, 0, 0), (35, .idiv, 1, 0, 0, 0), (36, .iload_n 2, 1, 0, 0, 0), (37, .irem, 1, 0, 0, 0), (38, .istore 6, 2, 0, 0, 0), (40, .iload_n 3, 1, 0, 0, 0), (41, .bipush 6, 2, 0, 0, 0), (43, .if_icmp .lt 10, 3, 0, 0, 0), (46, .aload_n 0, 1, 0, 0, 0), (47, .invokevirtual 102, 3, 0, 14, 0), (50, .goto 54, 3, 0, 0, 0), (53, .iload_n 3, 1, 0, 0, 0), (54, .iconst 5, 1, 0, 0, 0), (55, .if_icmp .ne 25, 3, 0, 0, 0), (58, .aload_n 0, 1, 0, 0, 0), (59, .iload 4, 2, 0, 0, 0), (61, .iload 6, 2, 0, 0, 0), (63, .invokevirtual 105, 3, 0, 15, 2), (66, .ifCond .eq 14, 3, 0, 0, 0), (69, .aload_n 0, 1, 0, 0, 0), (70, .iload 4, 2, 0, 0, 0), (72, .iload 6, 2, 0, 0, 0), (74, .invokevirtual 109, 3, 0, 16, 2), (77, .goto 27, 3, 0, 0, 0), (80, .iload_n 3, 1, 0, 0, 0), (81, .iconst 4, 1, 0, 0, 0), (82, .if_icmp .gt 22, 3, 0, 0, 0), (85, .aload_n 0, 1, 0, 0, 0), (86, .iload 4, 2, 0, 0, 0), (88, .iload 5, 2, 0, 0, 0), (90, .invokevirtual 112, 3, 0, 11, 2), (93, .ifCond .eq 11, 3, 0, 0, 0), (96, .aload_n 0, 1, 0, 0, 0), (97, .iload 4, 2, 0, 0, 0), (99, .iload 5, 2, 0, 0, 0), (101, .invokevirtual 115, 3, 0, 12, 2), (104, .return_, 1, 0, 0, 0)]
def vm_m21 : vm_M := (RX0, yX0_meetDraw, cX0_meetDraw, 7, none, vm_k21)
def vm_k22 : List vm_I := [(0, .iconst 0, 1, 0, 0, 0), (1, .istore_n 1, 1, 0, 0, 0), (2, .iconst 0, 1, 0, 0, 0), (3, .istore_n 2, 1, 0, 0, 0), (4, .iload_n 2, 1, 0, 0, 0), (5, .aload_n 0, 1, 0, 0, 0), (6, .invokevirtual 60, 3, 0, 4, 0), (9, .if_icmp .ge 20, 3, 0, 0, 0), (12, .aload_n 0, 1, 0, 0, 0), (13, .iload_n 2, 1, 0, 0, 0), (14, .invokevirtual 73, 3, 0, 10, 1), (17, .ifCond .eq 6, 3, 0, 0, 0), (20, .iinc 1 1, 3, 0, 0, 0), (23, .iinc 2 1, 3, 0, 0, 0), (26, .goto (-22), 3, 0, 0, 0), (29, .iload_n 1, 1, 0, 0, 0), (30, .ireturn, 1, 0, 0, 0)]
def vm_m22 : vm_M := (RX0, yX0_firesIn, cX0_firesIn, 3, (some .int), vm_k22)
def vm_k23 : List vm_I := [(0, .iconst 0, 1, 0, 0, 0), (1, .istore_n 1, 1, 0, 0, 0), (2, .iconst 0, 1, 0, 0, 0), (3, .istore_n 2, 1, 0, 0, 0), (4, .iload_n 2, 1, 0, 0, 0), (5, .aload_n 0, 1, 0, 0, 0), (6, .invokevirtual 60, 3, 0, 4, 0), (9, .if_icmp .ge 33, 3, 0, 0, 0), (12, .iconst 0, 1, 0, 0, 0), (13, .istore_n 3, 1, 0, 0, 0), (14, .iload_n 3, 1, 0, 0, 0), (15, .iconst 4, 1, 0, 0, 0), (16, .if_icmp .ge 20, 3, 0, 0, 0), (19, .iload_n 1, 1, 0, 0, 0), (20, .aload_n 0, 1, 0, 0, 0), (21, .iload_n 2, 1, 0, 0, 0), (22, .iconst 2, 1, 0, 0, 0), (23, .iload_n 3, 1, 0, 0, 0), (24, .iadd, 1, 0, 0, 0), (25, .invokevirtual 67, 3, 0, 7, 2), (28, .iadd, 1, 0, 0, 0), (29, .istore_n 1, 1, 0, 0, 0), (30, .iinc 3 1, 3, 0, 0, 0), (33, .goto (-19), 3, 0, 0, 0), (36, .iinc 2 1, 3, 0, 0, 0), (39, .goto (-35), 3, 0, 0, 0), (42, .iload_n 1, 1, 0, 0, 0), (43, .ireturn, 1, 0, 0, 0)]
def vm_m23 : vm_M := (RX0, yX0_allLogs, cX0_allLogs, 4, (some .int), vm_k23)
def vm_k24 : List vm_I := [(0, .iconst 0, 1, 0, 0, 0), (1, .istore_n 1, 1, 0, 0, 0), (2, .iconst 0, 1, 0, 0, 0), (3, .istore_n 2, 1, 0, 0, 0), (4, .iload_n 2, 1, 0, 0, 0), (5, .aload_n 0, 1, 0, 0, 0), (6, .invokevirtual 60, 3, 0, 4, 0), (9, .if_icmp .ge 19, 3, 0, 0, 0), (12, .iload_n 1, 1, 0, 0, 0), (13, .aload_n 0, 1, 0, 0, 0), (14, .iload_n 2, 1, 0, 0, 0), (15, .bipush 7, 2, 0, 0, 0), (17, .invokevirtual 67, 3, 0, 7, 2), (20, .iadd, 1, 0, 0, 0), (21, .istore_n 1, 1, 0, 0, 0), (22, .iinc 2 1, 3, 0, 0, 0), (25, .goto (-21), 3, 0, 0, 0), (28, .iload_n 1, 1, 0, 0, 0), (29, .ireturn, 1, 0, 0, 0)]
def vm_m24 : vm_M := (RX0, yX0_linesTold, cX0_linesTold, 3, (some .int), vm_k24)
def vm_k25 : List vm_I := [(0, .aload_n 0, 1, 0, 0, 0), (1, .invokespecial 3, 3, 5, 0, 0), (4, .aload_n 0, 1, 0, 0, 0), (5, .new 9, 3, 5, 0, 0), (8, .dup, 1, 0, 0, 0), (9, .bipush 21, 2, 0, 0, 0), (11, .invokespecial 11, 3, 2, 54, 1), (14, .putfield 14, 3, 1, 1, 0), (17, .aload_n 0, 1, 0, 0, 0), (18, .new 9, 3, 5, 0, 0), (21, .dup, 1, 0, 0, 0), (22, .bipush 21, 2, 0, 0, 0), (24, .invokespecial 11, 3, 2, 54, 1), (27, .putfield 20, 3, 1, 2, 0), (30, .aload_n 0, 1, 0, 0, 0), (31, .aload_n 1, 1, 0, 0, 0), (32, .putfield 23, 3, 1, 0, 0), (35, .return_, 1, 0, 0, 0)]
def vm_m25 : vm_M := (RX1, yX1_init, cX1_init, 2, none, vm_k25)
def vm_k26 : List vm_I := [(0, .aload_n 0, 1, 0, 0, 0), (1, .getfield 14, 3, 1, 1, 0), (4, .iconst 0, 1, 0, 0, 0), (5, .invokevirtual 27, 3, 0, 61, 501), (8, .aload_n 0, 1, 0, 0, 0), (9, .getfield 14, 3, 1, 1, 0), (12, .aload_n 1, 1, 0, 0, 0), (13, .iload_n 2, 1, 0, 0, 0), (14, .iconst 0, 1, 0, 0, 0), (15, .invokevirtual 32, 3, 0, 7, 2), (18, .iconst 1, 1, 0, 0, 0), (19, .invokevirtual 36, 3, 0, 60, 502), (22, .iconst 1, 1, 0, 0, 0), (23, .istore 6, 2, 0, 0, 0), (25, .iconst 0, 1, 0, 0, 0), (26, .istore 7, 2, 0, 0, 0), (28, .iload 7, 2, 0, 0, 0), (30, .iload_n 3, 1, 0, 0, 0), (31, .if_icmp .ge 43, 3, 0, 0, 0), (34, .aload_n 0, 1, 0, 0, 0), (35, .aload_n 1, 1, 0, 0, 0), (36, .iload_n 2, 1, 0, 0, 0), (37, .bipush 6, 2, 0, 0, 0), (39, .invokevirtual 32, 3, 0, 7, 2), (42, .aload_n 0, 1, 0, 0, 0), (43, .getfield 23, 3, 1, 0, 0), (46, .aload_n 1, 1, 0, 0, 0), (47, .invokevirtual 40, 3, 0, 5, 0), (50, .iload 7, 2, 0, 0, 0), (52, .iadd, 1, 0, 0, 0), (53, .invokevirtual 44, 3, 0, 80, 701), (56, .iload 4, 2, 0, 0, 0), (58, .invokevirtual 50, 3, 0, 27, 103), (61, .iload 6, 2, 0, 0, 0), (63, .bipush 10, 2, 0, 0, 0), (65, .imul, 1, 0, 0, 0), (66, .istore 6, 2, 0, 0, 0), (68, .iinc 7 1, 3, 0, 0, 0), (71, .goto (-43), 3, 0, 0, 0), (74, .iconst 0, 1, 0, 0, 0), (75, .istore 7, 2, 0, 0, 0), (77, .iconst 1, 1, 0, 0, 0), (78, .istore 8, 2, 0, 0, 0), (80, .iload 8, 2, 0, 0, 0), (82, .bipush 20, 2, 0, 0, 0), (84, .if_icmp .gt 23, 3, 0, 0, 0), (87, .iload 7, 2, 0, 0, 0), (89, .aload_n 0, 1, 0, 0, 0), (90, .getfield 14, 3, 1, 1, 0), (93, .iload 8, 2, 0, 0, 0), (95, .invokevirtual 54, 3, 0, 59, 501), (98, .iadd, 1, 0, 0, 0), (99, .istore 7, 2, 0, 0, 0), (101, .iinc 8 1, 3, 0, 0, 0), (104, .goto (-24), 3, 0, 0, 0), (107, .iload 6, 2, 0, 0, 0), (109, .iload 7, 2, 0, 0, 0), (111, .invokestatic 56, 3, 1, 29, 2), (114, .istore 8, 2, 0, 0, 0), (116, .iload 8, 2, 0, 0, 0), (118, .iconst 1, 1, 0, 0, 0), (119, .if_icmp .ge 5, 3, 0, 0, 0), (122, .iconst (-1), 1, 0, 0, 0), (123, .ireturn, 1, 0, 0, 0), (124, .iload 5, 2, 0, 0, 0), (126, .ifCond .ne 11, 3, 0, 0, 0), (129, .iload 7, 2, 0, 0, 0), (131, .iload 8, 2, 0, 0, 0), (133, .idiv, 1, 0, 0, 0), (134, .goto 8, 3, 0, 0, 0), (137, .iload 6, 2, 0, 0, 0), (139, .iload 8, 2, 0, 0, 0), (141, .idiv, 1, 0, 0, 0), (142, .ireturn, 1, 0, 0, 0)]
def vm_m26 : vm_M := (RX1, yX1_ofBeingIn, cX1_ofBeingIn, 9, (some .int), vm_k26)
def vm_k27 : List vm_I := [(0, .aload_n 0, 1, 0, 0, 0), (1, .getfield 20, 3, 1, 2, 0), (4, .iconst 0, 1, 0, 0, 0), (5, .invokevirtual 27, 3, 0, 61, 501), (8, .iconst 1, 1, 0, 0, 0), (9, .istore 4, 2, 0, 0, 0), (11, .iload 4, 2, 0, 0, 0), (13, .bipush 20, 2, 0, 0, 0), (15, .if_icmp .gt 58, 3, 0, 0, 0), (18, .aload_n 0, 1, 0, 0, 0), (19, .iload 4, 2, 0, 0, 0), (21, .iload_n 1, 1, 0, 0, 0), (22, .iload_n 2, 1, 0, 0, 0), (23, .invokestatic 59, 3, 1, 31, 3), (26, .aload_n 0, 1, 0, 0, 0), (27, .getfield 14, 3, 1, 1, 0), (30, .iload 4, 2, 0, 0, 0), (32, .invokevirtual 54, 3, 0, 59, 501), (35, .bipush 10, 2, 0, 0, 0), (37, .iload_n 3, 1, 0, 0, 0), (38, .isub, 1, 0, 0, 0), (39, .imul, 1, 0, 0, 0), (40, .invokevirtual 65, 3, 0, 28, 102), (43, .aload_n 0, 1, 0, 0, 0), (44, .iload 4, 2, 0, 0, 0), (46, .iload_n 1, 1, 0, 0, 0), (47, .iload_n 2, 1, 0, 0, 0), (48, .iconst 2, 1, 0, 0, 0), (49, .iadd, 1, 0, 0, 0), (50, .invokestatic 59, 3, 1, 31, 3), (53, .aload_n 0, 1, 0, 0, 0), (54, .getfield 14, 3, 1, 1, 0), (57, .iload 4, 2, 0, 0, 0), (59, .invokevirtual 54, 3, 0, 59, 501), (62, .iload_n 3, 1, 0, 0, 0), (63, .imul, 1, 0, 0, 0), (64, .invokevirtual 65, 3, 0, 28, 102), (67, .iinc 4 1, 3, 0, 0, 0), (70, .goto (-59), 3, 0, 0, 0), (73, .aload_n 0, 1, 0, 0, 0), (74, .getfield 14, 3, 1, 1, 0), (77, .aload_n 0, 1, 0, 0, 0), (78, .getfield 20, 3, 1, 2, 0), (81, .invokevirtual 68, 3, 0, 62, 501), (84, .return_, 1, 0, 0, 0)]
def vm_m27 : vm_M := (RX1, yX1_burn, cX1_burn, 5, none, vm_k27)
def vm_k28 : List vm_I := [(0, .aload_n 0, 1, 0, 0, 0), (1, .getfield 20, 3, 1, 2, 0), (4, .iload_n 1, 1, 0, 0, 0), (5, .aload_n 0, 1, 0, 0, 0), (6, .getfield 20, 3, 1, 2, 0), (9, .iload_n 1, 1, 0, 0, 0), (10, .invokevirtual 54, 3, 0, 59, 501), (13, .iload_n 2, 1, 0, 0, 0), (14, .iadd, 1, 0, 0, 0), (15, .invokevirtual 36, 3, 0, 60, 502), (18, .return_, 1, 0, 0, 0)]
def vm_m28 : vm_M := (RX1, yX1_addWays, cX1_addWays, 3, none, vm_k28)
def vm_k29 : List vm_I := [(0, .iload_n 0, 1, 0, 0, 0), (1, .istore_n 2, 1, 0, 0, 0), (2, .iload_n 1, 1, 0, 0, 0), (3, .istore_n 3, 1, 0, 0, 0), (4, .iconst 0, 1, 0, 0, 0), (5, .istore 4, 2, 0, 0, 0), (7, .iload 4, 2, 0, 0, 0), (9, .bipush 100, 2, 0, 0, 0), (11, .if_icmp .ge 23, 3, 0, 0, 0), (14, .iload_n 3, 1, 0, 0, 0), (15, .ifCond .le 19, 3, 0, 0, 0), (18, .iload_n 2, 1, 0, 0, 0), (19, .iload_n 3, 1, 0, 0, 0), (20, .irem, 1, 0, 0, 0), (21, .istore 5, 2, 0, 0, 0), (23, .iload_n 3, 1, 0, 0, 0), (24, .istore_n 2, 1, 0, 0, 0), (25, .iload 5, 2, 0, 0, 0), (27, .istore_n 3, 1, 0, 0, 0), (28, .iinc 4 1, 3, 0, 0, 0), (31, .goto (-24), 3, 0, 0, 0), (34, .iload_n 2, 1, 0, 0, 0), (35, .ireturn, 1, 0, 0, 0)]
def vm_m29 : vm_M := (RX1, yX1_commonDivisor, cX1_commonDivisor, 6, (some .int), vm_k29)
def vm_k30 : List vm_I := [(0, .iconst 0, 1, 0, 0, 0), (1, .bipush 20, 2, 0, 0, 0), (3, .iload_n 0, 1, 0, 0, 0), (4, .iload_n 1, 1, 0, 0, 0), (5, .invokestatic 9, 3, 1, 32, 1), (8, .iadd, 1, 0, 0, 0), (9, .invokestatic 15, 3, 1, 203, 2), (12, .invokestatic 21, 3, 1, 202, 2), (15, .ireturn, 1, 0, 0, 0)]
def vm_m30 : vm_M := (RX2, yX2_fed, cX2_fed, 2, (some .int), vm_k30)
def vm_k31 : List vm_I := [(0, .iconst 1, 1, 0, 0, 0), (1, .istore_n 3, 1, 0, 0, 0), (2, .iload_n 1, 1, 0, 0, 0), (3, .iconst 3, 1, 0, 0, 0), (4, .if_icmp .eq 7, 3, 0, 0, 0), (7, .iload_n 3, 1, 0, 0, 0), (8, .iload_n 2, 1, 0, 0, 0), (9, .iadd, 1, 0, 0, 0), (10, .istore_n 3, 1, 0, 0, 0), (11, .iload_n 1, 1, 0, 0, 0), (12, .iconst 1, 1, 0, 0, 0), (13, .if_icmp .ne 6, 3, 0, 0, 0), (16, .iinc 3 1, 3, 0, 0, 0), (19, .iconst 0, 1, 0, 0, 0), (20, .iload_n 0, 1, 0, 0, 0), (21, .iload_n 3, 1, 0, 0, 0), (22, .isub, 1, 0, 0, 0), (23, .invokestatic 21, 3, 1, 202, 2), (26, .ireturn, 1, 0, 0, 0)]
def vm_m31 : vm_M := (RX2, yX2_burnt, cX2_burnt, 4, (some .int), vm_k31)
def vm_k32 : List vm_I := [(0, .iload_n 0, 1, 0, 0, 0), (1, .tableswitch 41 0 3 #[31, 33, 36, 39], 31, 0, 0, 0), (32, .iconst 4, 1, 0, 0, 0), (33, .ireturn, 1, 0, 0, 0), (34, .bipush 6, 2, 0, 0, 0), (36, .ireturn, 1, 0, 0, 0), (37, .bipush (-2), 2, 0, 0, 0), (39, .ireturn, 1, 0, 0, 0), (40, .iconst 1, 1, 0, 0, 0), (41, .ireturn, 1, 0, 0, 0), (42, .iconst 0, 1, 0, 0, 0), (43, .ireturn, 1, 0, 0, 0)]
def vm_m32 : vm_M := (RX2, yX2_heatOf, cX2_heatOf, 1, (some .int), vm_k32)
def vm_k33 : List vm_I := [(0, .aload_n 0, 1, 0, 0, 0), (1, .invokespecial 3, 3, 5, 0, 0), (4, .aload_n 0, 1, 0, 0, 0), (5, .new 9, 3, 5, 0, 0), (8, .dup, 1, 0, 0, 0), (9, .iconst 4, 1, 0, 0, 0), (10, .invokespecial 11, 3, 2, 54, 1), (13, .putfield 14, 3, 2, 1, 0), (16, .aload_n 0, 1, 0, 0, 0), (17, .new 9, 3, 5, 0, 0), (20, .dup, 1, 0, 0, 0), (21, .bipush 6, 2, 0, 0, 0), (23, .invokespecial 11, 3, 2, 54, 1), (26, .putfield 20, 3, 2, 2, 0), (29, .aload_n 0, 1, 0, 0, 0), (30, .aload_n 1, 1, 0, 0, 0), (31, .putfield 23, 3, 2, 0, 0), (34, .return_, 1, 0, 0, 0)]
def vm_m33 : vm_M := (RX3, yX3_init, cX3_init, 2, none, vm_k33)
def vm_k34 : List vm_I := [(0, .aload_n 0, 1, 0, 0, 0), (1, .aload_n 1, 1, 0, 0, 0), (2, .invokevirtual 27, 3, 0, 5, 0), (5, .putfield 33, 3, 2, 3, 0), (8, .aload_n 0, 1, 0, 0, 0), (9, .bipush 6, 2, 0, 0, 0), (11, .iload_n 3, 1, 0, 0, 0), (12, .invokestatic 37, 3, 1, 203, 2), (15, .putfield 43, 3, 2, 4, 0), (18, .aload_n 0, 1, 0, 0, 0), (19, .getfield 14, 3, 2, 1, 0), (22, .invokevirtual 45, 3, 0, 57, 500), (25, .iconst 0, 1, 0, 0, 0), (26, .istore 4, 2, 0, 0, 0), (28, .iload 4, 2, 0, 0, 0), (30, .iconst 4, 1, 0, 0, 0), (31, .if_icmp .ge 25, 3, 0, 0, 0), (34, .aload_n 0, 1, 0, 0, 0), (35, .getfield 14, 3, 2, 1, 0), (38, .aload_n 1, 1, 0, 0, 0), (39, .iload_n 2, 1, 0, 0, 0), (40, .iconst 2, 1, 0, 0, 0), (41, .iload 4, 2, 0, 0, 0), (43, .iadd, 1, 0, 0, 0), (44, .invokevirtual 48, 3, 0, 7, 2), (47, .invokevirtual 51, 3, 0, 58, 501), (50, .iinc 4 1, 3, 0, 0, 0), (53, .goto (-25), 3, 0, 0, 0), (56, .aload_n 0, 1, 0, 0, 0), (57, .getfield 20, 3, 2, 2, 0), (60, .bipush (-4), 2, 0, 0, 0), (62, .invokevirtual 54, 3, 0, 61, 501), (65, .iconst 0, 1, 0, 0, 0), (66, .istore 4, 2, 0, 0, 0), (68, .iload 4, 2, 0, 0, 0), (70, .aload_n 0, 1, 0, 0, 0), (71, .getfield 43, 3, 2, 4, 0), (74, .if_icmp .gt 35, 3, 0, 0, 0), (77, .aload_n 0, 1, 0, 0, 0), (78, .iconst 0, 1, 0, 0, 0), (79, .aload_n 1, 1, 0, 0, 0), (80, .iload_n 2, 1, 0, 0, 0), (81, .iconst 0, 1, 0, 0, 0), (82, .invokevirtual 48, 3, 0, 7, 2), (85, .aload_n 1, 1, 0, 0, 0), (86, .iload_n 2, 1, 0, 0, 0), (87, .bipush 6, 2, 0, 0, 0), (89, .invokevirtual 48, 3, 0, 7, 2), (92, .iload 4, 2, 0, 0, 0), (94, .invokevirtual 57, 3, 0, 36, 204), (97, .ifCond .eq 6, 3, 0, 0, 0), (100, .iload 4, 2, 0, 0, 0), (102, .ireturn, 1, 0, 0, 0), (103, .iinc 4 1, 3, 0, 0, 0), (106, .goto (-38), 3, 0, 0, 0), (109, .bipush (-4), 2, 0, 0, 0), (111, .ireturn, 1, 0, 0, 0)]
def vm_m34 : vm_M := (RX3, yX3_fewest, cX3_fewest, 5, (some .int), vm_k34)
def vm_k35 : List vm_I := [(0, .iload_n 1, 1, 0, 0, 0), (1, .aload_n 0, 1, 0, 0, 0), (2, .getfield 43, 3, 2, 4, 0), (5, .if_icmp .ge 14, 3, 0, 0, 0), (8, .aload_n 0, 1, 0, 0, 0), (9, .getfield 20, 3, 2, 2, 0), (12, .iload_n 1, 1, 0, 0, 0), (13, .invokevirtual 61, 3, 0, 59, 501), (16, .goto 5, 3, 0, 0, 0), (19, .bipush (-4), 2, 0, 0, 0), (21, .ireturn, 1, 0, 0, 0)]
def vm_m35 : vm_M := (RX3, yX3_woodAhead, cX3_woodAhead, 2, (some .int), vm_k35)
def vm_k36 : List vm_I := [(0, .iload_n 2, 1, 0, 0, 0), (1, .iconst 1, 1, 0, 0, 0), (2, .if_icmp .lt 14, 3, 0, 0, 0), (5, .iload 4, 2, 0, 0, 0), (7, .aload_n 0, 1, 0, 0, 0), (8, .getfield 43, 3, 2, 4, 0), (11, .iload_n 1, 1, 0, 0, 0), (12, .isub, 1, 0, 0, 0), (13, .if_icmp .le 5, 3, 0, 0, 0), (16, .iconst 0, 1, 0, 0, 0), (17, .ireturn, 1, 0, 0, 0), (18, .iload_n 1, 1, 0, 0, 0), (19, .aload_n 0, 1, 0, 0, 0), (20, .getfield 43, 3, 2, 4, 0), (23, .if_icmp .lt 5, 3, 0, 0, 0), (26, .iconst 1, 1, 0, 0, 0), (27, .ireturn, 1, 0, 0, 0), (28, .iconst 0, 1, 0, 0, 0), (29, .istore 5, 2, 0, 0, 0), (31, .iload 5, 2, 0, 0, 0), (33, .iconst 4, 1, 0, 0, 0), (34, .if_icmp .ge 29, 3, 0, 0, 0), (37, .iload 4, 2, 0, 0, 0), (39, .ifCond .le 24, 3, 0, 0, 0), (42, .aload_n 0, 1, 0, 0, 0), (43, .iload 5, 2, 0, 0, 0), (45, .iload_n 1, 1, 0, 0, 0), (46, .iload_n 2, 1, 0, 0, 0), (47, .iload 4, 2, 0, 0, 0), (49, .invokevirtual 64, 3, 0, 37, 204), (52, .ifCond .eq 5, 3, 0, 0, 0), (55, .iconst 1, 1, 0, 0, 0), (56, .ireturn, 1, 0, 0, 0), (57, .iinc 5 1, 3, 0, 0, 0), (60, .goto (-29), 3, 0, 0, 0), (63, .aload_n 0, 1, 0, 0, 0), (64, .getfield 20, 3, 2, 2, 0), (67, .iload_n 1, 1, 0, 0, 0), (68, .bipush (-4), 2, 0, 0, 0), (70, .invokevirtual 67, 3, 0, 60, 502), (73, .aload_n 0, 1, 0, 0, 0), (74, .iload_n 1, 1, 0, 0, 0), (75, .iconst 1, 1, 0, 0, 0), (76, .iadd, 1, 0, 0, 0), (77, .iload_n 2, 1, 0, 0, 0), (78, .iload_n 3, 1, 0, 0, 0), (79, .aload_n 0, 1, 0, 0, 0), (80, .getfield 23, 3, 2, 0, 0), (83, .aload_n 0, 1, 0, 0, 0), (84, .getfield 33, 3, 2, 3, 0), (87, .iload_n 1, 1, 0, 0, 0), (88, .iadd, 1, 0, 0, 0), (89, .invokevirtual 71, 3, 0, 80, 701), (92, .invokestatic 76, 3, 1, 31, 3), (95, .iload_n 3, 1, 0, 0, 0), (96, .iload 4, 2, 0, 0, 0), (98, .invokevirtual 57, 3, 0, 36, 204), (101, .ireturn, 1, 0, 0, 0)]
def vm_m36 : vm_M := (RX3, yX3_isKept, cX3_isKept, 6, (some .boolean), vm_k36)
def vm_k37 : List vm_I := [(0, .iload_n 3, 1, 0, 0, 0), (1, .iload_n 1, 1, 0, 0, 0), (2, .invokestatic 82, 3, 1, 30, 2), (5, .istore 5, 2, 0, 0, 0), (7, .aload_n 0, 1, 0, 0, 0), (8, .getfield 14, 3, 2, 1, 0), (11, .iload_n 1, 1, 0, 0, 0), (12, .invokevirtual 61, 3, 0, 59, 501), (15, .iconst 1, 1, 0, 0, 0), (16, .if_icmp .lt 9, 3, 0, 0, 0), (19, .iload 5, 2, 0, 0, 0), (21, .iconst 1, 1, 0, 0, 0), (22, .if_icmp .ge 5, 3, 0, 0, 0), (25, .iconst 0, 1, 0, 0, 0), (26, .ireturn, 1, 0, 0, 0), (27, .aload_n 0, 1, 0, 0, 0), (28, .getfield 14, 3, 2, 1, 0), (31, .iload_n 1, 1, 0, 0, 0), (32, .aload_n 0, 1, 0, 0, 0), (33, .getfield 14, 3, 2, 1, 0), (36, .iload_n 1, 1, 0, 0, 0), (37, .invokevirtual 61, 3, 0, 59, 501), (40, .iconst 1, 1, 0, 0, 0), (41, .isub, 1, 0, 0, 0), (42, .invokevirtual 67, 3, 0, 60, 502), (45, .aload_n 0, 1, 0, 0, 0), (46, .getfield 20, 3, 2, 2, 0), (49, .iload_n 2, 1, 0, 0, 0), (50, .iload_n 1, 1, 0, 0, 0), (51, .invokevirtual 67, 3, 0, 60, 502), (54, .aload_n 0, 1, 0, 0, 0), (55, .iload_n 2, 1, 0, 0, 0), (56, .iconst 1, 1, 0, 0, 0), (57, .iadd, 1, 0, 0, 0), (58, .iload 5, 2, 0, 0, 0), (60, .iload_n 1, 1, 0, 0, 0), (61, .aload_n 0, 1, 0, 0, 0), (62, .getfield 23, 3, 2, 0, 0), (65, .aload_n 0, 1, 0, 0, 0), (66, .getfield 33, 3, 2, 3, 0), (69, .iload_n 2, 1, 0, 0, 0), (70, .iadd, 1, 0, 0, 0), (71, .invokevirtual 71, 3, 0, 80, 701), (74, .invokestatic 76, 3, 1, 31, 3), (77, .iload_n 1, 1, 0, 0, 0), (78, .iload 4, 2, 0, 0, 0), (80, .iconst 1, 1, 0, 0, 0), (81, .isub, 1, 0, 0, 0), (82, .invokevirtual 57, 3, 0, 36, 204), (85, .istore 6, 2, 0, 0, 0), (87, .aload_n 0, 1, 0, 0, 0), (88, .getfield 14, 3, 2, 1, 0), (91, .iload_n 1, 1, 0, 0, 0), (92, .aload_n 0, 1, 0, 0, 0), (93, .getfield 14, 3, 2, 1, 0), (96, .iload_n 1, 1, 0, 0, 0), (97, .invokevirtual 61, 3, 0, 59, 501), (100, .iconst 1, 1, 0, 0, 0), (101, .iadd, 1, 0, 0, 0), (102, .invokevirtual 67, 3, 0, 60, 502), (105, .iload 6, 2, 0, 0, 0), (107, .ireturn, 1, 0, 0, 0)]
def vm_m37 : vm_M := (RX3, yX3_isKeptBy, cX3_isKeptBy, 7, (some .boolean), vm_k37)
def vm_k38 : List vm_I := [(0, .aload_n 0, 1, 0, 0, 0), (1, .invokespecial 3, 3, 5, 0, 0), (4, .aload_n 0, 1, 0, 0, 0), (5, .new 9, 3, 5, 0, 0), (8, .dup, 1, 0, 0, 0), (9, .bipush 81, 2, 0, 0, 0), (11, .invokespecial 13, 3, 2, 54, 1), (14, .putfield 16, 3, 3, 1, 0), (17, .aload_n 0, 1, 0, 0, 0), (18, .new 9, 3, 5, 0, 0), (21, .dup, 1, 0, 0, 0), (22, .bipush 81, 2, 0, 0, 0), (24, .invokespecial 13, 3, 2, 54, 1), (27, .putfield 20, 3, 3, 2, 0), (30, .aload_n 0, 1, 0, 0, 0), (31, .new 9, 3, 5, 0, 0), (34, .dup, 1, 0, 0, 0), (35, .bipush 81, 2, 0, 0, 0), (37, .invokespecial 13, 3, 2, 54, 1), (40, .putfield 23, 3, 3, 3, 0), (43, .aload_n 0, 1, 0, 0, 0), (44, .new 9, 3, 5, 0, 0), (47, .dup, 1, 0, 0, 0), (48, .bipush 81, 2, 0, 0, 0), (50, .invokespecial 13, 3, 2, 54, 1), (53, .putfield 26, 3, 3, 4, 0), (56, .aload_n 0, 1, 0, 0, 0), (57, .new 9, 3, 5, 0, 0), (60, .dup, 1, 0, 0, 0), (61, .bipush 81, 2, 0, 0, 0), (63, .invokespecial 13, 3, 2, 54, 1), (66, .putfield 29, 3, 3, 5, 0), (69, .aload_n 0, 1, 0, 0, 0), (70, .aload_n 1, 1, 0, 0, 0), (71, .putfield 32, 3, 3, 0, 0), (74, .return_, 1, 0, 0, 0)]
def vm_m38 : vm_M := (RX4, yX4_init, cX4_init, 2, none, vm_k38)
def vm_k39 : List vm_I := [(0, .aload_n 0, 1, 0, 0, 0), (1, .getfield 16, 3, 3, 1, 0), (4, .invokevirtual 36, 3, 0, 57, 500), (7, .aload_n 0, 1, 0, 0, 0), (8, .getfield 20, 3, 3, 2, 0), (11, .invokevirtual 36, 3, 0, 57, 500), (14, .aload_n 0, 1, 0, 0, 0), (15, .getfield 23, 3, 3, 3, 0), (18, .invokevirtual 36, 3, 0, 57, 500), (21, .aload_n 0, 1, 0, 0, 0), (22, .getfield 29, 3, 3, 5, 0), (25, .invokevirtual 36, 3, 0, 57, 500), (28, .aload_n 0, 1, 0, 0, 0), (29, .getfield 26, 3, 3, 4, 0), (32, .iconst 0, 1, 0, 0, 0), (33, .invokevirtual 39, 3, 0, 61, 501), (36, .aload_n 0, 1, 0, 0, 0), (37, .iload_n 1, 1, 0, 0, 0), (38, .iload_n 2, 1, 0, 0, 0), (39, .bipush (-4), 2, 0, 0, 0), (41, .bipush (-4), 2, 0, 0, 0), (43, .invokevirtual 42, 3, 0, 41, 304), (46, .iconst 0, 1, 0, 0, 0), (47, .istore_n 3, 1, 0, 0, 0), (48, .iload_n 3, 1, 0, 0, 0), (49, .bipush 81, 2, 0, 0, 0), (51, .if_icmp .ge 103, 3, 0, 0, 0), (54, .iload_n 3, 1, 0, 0, 0), (55, .aload_n 0, 1, 0, 0, 0), (56, .getfield 16, 3, 3, 1, 0), (59, .invokevirtual 46, 3, 0, 55, 500), (62, .if_icmp .ge 92, 3, 0, 0, 0), (65, .aload_n 0, 1, 0, 0, 0), (66, .getfield 16, 3, 3, 1, 0), (69, .iload_n 3, 1, 0, 0, 0), (70, .invokevirtual 50, 3, 0, 59, 501), (73, .bipush 9, 2, 0, 0, 0), (75, .idiv, 1, 0, 0, 0), (76, .istore 4, 2, 0, 0, 0), (78, .aload_n 0, 1, 0, 0, 0), (79, .getfield 16, 3, 3, 1, 0), (82, .iload_n 3, 1, 0, 0, 0), (83, .invokevirtual 50, 3, 0, 59, 501), (86, .bipush 9, 2, 0, 0, 0), (88, .irem, 1, 0, 0, 0), (89, .istore 5, 2, 0, 0, 0), (91, .iload 4, 2, 0, 0, 0), (93, .iload 5, 2, 0, 0, 0), (95, .if_icmp .ne 9, 3, 0, 0, 0), (98, .aload_n 0, 1, 0, 0, 0), (99, .iload_n 3, 1, 0, 0, 0), (100, .invokevirtual 54, 3, 0, 42, 301), (103, .ireturn, 1, 0, 0, 0), (104, .iconst 0, 1, 0, 0, 0), (105, .istore 6, 2, 0, 0, 0), (107, .iload 6, 2, 0, 0, 0), (109, .iconst 4, 1, 0, 0, 0), (110, .if_icmp .ge 38, 3, 0, 0, 0), (113, .aload_n 0, 1, 0, 0, 0), (114, .aload_n 0, 1, 0, 0, 0), (115, .getfield 32, 3, 3, 0, 0), (118, .iload 4, 2, 0, 0, 0), (120, .iload 6, 2, 0, 0, 0), (122, .invokevirtual 57, 3, 0, 79, 702), (125, .aload_n 0, 1, 0, 0, 0), (126, .getfield 32, 3, 3, 0, 0), (129, .iload 5, 2, 0, 0, 0), (131, .iload 6, 2, 0, 0, 0), (133, .invokevirtual 57, 3, 0, 79, 702), (136, .iload_n 3, 1, 0, 0, 0), (137, .iload 6, 2, 0, 0, 0), (139, .invokevirtual 42, 3, 0, 41, 304), (142, .iinc 6 1, 3, 0, 0, 0), (145, .goto (-38), 3, 0, 0, 0), (148, .iinc 3 1, 3, 0, 0, 0), (151, .goto (-103), 3, 0, 0, 0), (154, .bipush (-4), 2, 0, 0, 0), (156, .ireturn, 1, 0, 0, 0)]
def vm_m39 : vm_M := (RX4, yX4_shortest, cX4_shortest, 7, (some .int), vm_k39)
def vm_k40 : List vm_I := [(0, .iload_n 1, 1, 0, 0, 0), (1, .aload_n 0, 1, 0, 0, 0), (2, .getfield 29, 3, 3, 5, 0), (5, .invokevirtual 46, 3, 0, 55, 500), (8, .if_icmp .ge 24, 3, 0, 0, 0), (11, .aload_n 0, 1, 0, 0, 0), (12, .getfield 29, 3, 3, 5, 0), (15, .aload_n 0, 1, 0, 0, 0), (16, .getfield 29, 3, 3, 5, 0), (19, .invokevirtual 46, 3, 0, 55, 500), (22, .iconst 1, 1, 0, 0, 0), (23, .isub, 1, 0, 0, 0), (24, .iload_n 1, 1, 0, 0, 0), (25, .isub, 1, 0, 0, 0), (26, .invokevirtual 50, 3, 0, 59, 501), (29, .goto 5, 3, 0, 0, 0), (32, .bipush (-4), 2, 0, 0, 0), (34, .ireturn, 1, 0, 0, 0)]
def vm_m40 : vm_M := (RX4, yX4_woodAt, cX4_woodAt, 2, (some .int), vm_k40)
def vm_k41 : List vm_I := [(0, .iload_n 1, 1, 0, 0, 0), (1, .bipush 9, 2, 0, 0, 0), (3, .imul, 1, 0, 0, 0), (4, .iload_n 2, 1, 0, 0, 0), (5, .iadd, 1, 0, 0, 0), (6, .istore 5, 2, 0, 0, 0), (8, .aload_n 0, 1, 0, 0, 0), (9, .getfield 26, 3, 3, 4, 0), (12, .iload 5, 2, 0, 0, 0), (14, .invokevirtual 50, 3, 0, 59, 501), (17, .ifCond .ne 39, 3, 0, 0, 0), (20, .aload_n 0, 1, 0, 0, 0), (21, .getfield 26, 3, 3, 4, 0), (24, .iload 5, 2, 0, 0, 0), (26, .iconst 1, 1, 0, 0, 0), (27, .invokevirtual 63, 3, 0, 60, 502), (30, .aload_n 0, 1, 0, 0, 0), (31, .getfield 16, 3, 3, 1, 0), (34, .iload 5, 2, 0, 0, 0), (36, .invokevirtual 67, 3, 0, 58, 501), (39, .aload_n 0, 1, 0, 0, 0), (40, .getfield 20, 3, 3, 2, 0), (43, .iload_n 3, 1, 0, 0, 0), (44, .invokevirtual 67, 3, 0, 58, 501), (47, .aload_n 0, 1, 0, 0, 0), (48, .getfield 23, 3, 3, 3, 0), (51, .iload 4, 2, 0, 0, 0), (53, .invokevirtual 67, 3, 0, 58, 501), (56, .return_, 1, 0, 0, 0)]
def vm_m41 : vm_M := (RX4, yX4_reach, cX4_reach, 6, none, vm_k41)
def vm_k42 : List vm_I := [(0, .iload_n 1, 1, 0, 0, 0), (1, .istore_n 2, 1, 0, 0, 0), (2, .iconst 0, 1, 0, 0, 0), (3, .istore_n 3, 1, 0, 0, 0), (4, .iload_n 3, 1, 0, 0, 0), (5, .bipush 81, 2, 0, 0, 0), (7, .if_icmp .ge 37, 3, 0, 0, 0), (10, .iload_n 2, 1, 0, 0, 0), (11, .ifCond .le 33, 3, 0, 0, 0), (14, .aload_n 0, 1, 0, 0, 0), (15, .getfield 29, 3, 3, 5, 0), (18, .aload_n 0, 1, 0, 0, 0), (19, .getfield 23, 3, 3, 3, 0), (22, .iload_n 2, 1, 0, 0, 0), (23, .invokevirtual 50, 3, 0, 59, 501), (26, .invokevirtual 67, 3, 0, 58, 501), (29, .aload_n 0, 1, 0, 0, 0), (30, .getfield 20, 3, 3, 2, 0), (33, .iload_n 2, 1, 0, 0, 0), (34, .invokevirtual 50, 3, 0, 59, 501), (37, .istore_n 2, 1, 0, 0, 0), (38, .iinc 3 1, 3, 0, 0, 0), (41, .goto (-37), 3, 0, 0, 0), (44, .aload_n 0, 1, 0, 0, 0), (45, .getfield 29, 3, 3, 5, 0), (48, .invokevirtual 46, 3, 0, 55, 500), (51, .ireturn, 1, 0, 0, 0)]
def vm_m42 : vm_M := (RX4, yX4_traceBack, cX4_traceBack, 4, (some .int), vm_k42)
def vm_k43 : List vm_I := [(0, .aload_n 0, 1, 0, 0, 0), (1, .invokespecial 3, 3, 5, 0, 0), (4, .aload_n 0, 1, 0, 0, 0), (5, .new 9, 3, 5, 0, 0), (8, .dup, 1, 0, 0, 0), (9, .bipush 6, 2, 0, 0, 0), (11, .invokespecial 13, 3, 2, 54, 1), (14, .putfield 16, 3, 4, 1, 0), (17, .aload_n 0, 1, 0, 0, 0), (18, .new 20, 3, 7, 0, 0), (21, .dup, 1, 0, 0, 0), (22, .invokespecial 22, 3, 4, 70, 0), (25, .putfield 23, 3, 4, 2, 0), (28, .aload_n 0, 1, 0, 0, 0), (29, .new 27, 3, 0, 0, 0), (32, .dup, 1, 0, 0, 0), (33, .aload_n 0, 1, 0, 0, 0), (34, .getfield 23, 3, 4, 2, 0), (37, .invokespecial 29, 3, 2, 0, 1), (40, .putfield 32, 3, 4, 3, 0), (43, .aload_n 0, 1, 0, 0, 0), (44, .aload_n 1, 1, 0, 0, 0), (45, .putfield 36, 3, 4, 0, 0), (48, .return_, 1, 0, 0, 0)]
def vm_m43 : vm_M := (RX5, yX5_init, cX5_init, 2, none, vm_k43)
def vm_k44 : List vm_I := [(0, .aload_n 0, 1, 0, 0, 0), (1, .getfield 23, 3, 4, 2, 0), (4, .areturn, 1, 0, 0, 0)]
def vm_m44 : vm_M := (RX5, yX5_tale, cX5_tale, 1, (some (.object "EmberTale$Tale")), vm_k44)
def vm_k45 : List vm_I := [(0, .aload_n 0, 1, 0, 0, 0), (1, .getfield 32, 3, 4, 3, 0), (4, .areturn, 1, 0, 0, 0)]
def vm_m45 : vm_M := (RX5, yX5_camp, cX5_camp, 1, (some (.object "EmberTale$Camp")), vm_k45)
def vm_k46 : List vm_I := [(0, .aload_n 0, 1, 0, 0, 0), (1, .getfield 32, 3, 4, 3, 0), (4, .invokevirtual 39, 3, 0, 4, 0), (7, .iconst 1, 1, 0, 0, 0), (8, .if_icmp .lt 17, 3, 0, 0, 0), (11, .aload_n 0, 1, 0, 0, 0), (12, .getfield 23, 3, 4, 2, 0), (15, .invokevirtual 43, 3, 0, 77, 700), (18, .ifCond .eq 7, 3, 0, 0, 0), (21, .iconst 1, 1, 0, 0, 0), (22, .goto 4, 3, 0, 0, 0), (25, .iconst 0, 1, 0, 0, 0), (26, .ireturn, 1, 0, 0, 0)]
def vm_m46 : vm_M := (RX5, yX5_readAWhole, cX5_readAWhole, 1, (some .boolean), vm_k46)
def vm_k47 : List vm_I := [(0, .aload_n 0, 1, 0, 0, 0), (1, .getfield 23, 3, 4, 2, 0), (4, .invokevirtual 47, 3, 0, 71, 700), (7, .aload_n 0, 1, 0, 0, 0), (8, .getfield 32, 3, 4, 3, 0), (11, .invokevirtual 50, 3, 0, 1, 0), (14, .aload_n 0, 1, 0, 0, 0), (15, .iconst 0, 1, 0, 0, 0), (16, .putfield 51, 3, 4, 4, 0), (19, .iconst 0, 1, 0, 0, 0), (20, .istore_n 1, 1, 0, 0, 0), (21, .iload_n 1, 1, 0, 0, 0), (22, .sipush 200, 3, 0, 0, 0), (25, .if_icmp .ge 37, 3, 0, 0, 0), (28, .aload_n 0, 1, 0, 0, 0), (29, .getfield 51, 3, 4, 4, 0), (32, .aload_n 0, 1, 0, 0, 0), (33, .getfield 36, 3, 4, 0, 0), (36, .invokevirtual 55, 3, 0, 55, 500), (39, .if_icmp .ge 23, 3, 0, 0, 0), (42, .aload_n 0, 1, 0, 0, 0), (43, .getfield 51, 3, 4, 4, 0), (46, .istore_n 2, 1, 0, 0, 0), (47, .aload_n 0, 1, 0, 0, 0), (48, .invokevirtual 58, 3, 0, 48, 400), (51, .ifCond .ne 5, 3, 0, 0, 0), (54, .iload_n 2, 1, 0, 0, 0), (55, .ireturn, 1, 0, 0, 0), (56, .iinc 1 1, 3, 0, 0, 0), (59, .goto (-38), 3, 0, 0, 0), (62, .bipush (-4), 2, 0, 0, 0), (64, .ireturn, 1, 0, 0, 0)]
def vm_m47 : vm_M := (RX5, yX5_firstFault, cX5_firstFault, 3, (some .int), vm_k47)
def vm_k48 : List vm_I := [(0, .aload_n 0, 1, 0, 0, 0), (1, .invokevirtual 61, 3, 0, 52, 400), (4, .lookupswitch 125 #[(99, 96), (114, 64), (116, 36)], 36, 0, 0, 0), (40, .aload_n 0, 1, 0, 0, 0), (41, .iconst 4, 1, 0, 0, 0), (42, .invokevirtual 64, 3, 0, 49, 401), (45, .ifCond .eq 21, 3, 0, 0, 0), (48, .aload_n 0, 1, 0, 0, 0), (49, .getfield 23, 3, 4, 2, 0), (52, .aload_n 0, 1, 0, 0, 0), (53, .getfield 16, 3, 4, 1, 0), (56, .invokevirtual 68, 3, 0, 73, 701), (59, .ifCond .eq 7, 3, 0, 0, 0), (62, .iconst 1, 1, 0, 0, 0), (63, .goto 4, 3, 0, 0, 0), (66, .iconst 0, 1, 0, 0, 0), (67, .ireturn, 1, 0, 0, 0), (68, .aload_n 0, 1, 0, 0, 0), (69, .iconst 1, 1, 0, 0, 0), (70, .invokevirtual 72, 3, 0, 50, 401), (73, .ifCond .eq 25, 3, 0, 0, 0), (76, .aload_n 0, 1, 0, 0, 0), (77, .getfield 23, 3, 4, 2, 0), (80, .aload_n 0, 1, 0, 0, 0), (81, .getfield 16, 3, 4, 1, 0), (84, .iconst 0, 1, 0, 0, 0), (85, .invokevirtual 75, 3, 0, 59, 501), (88, .invokevirtual 79, 3, 0, 74, 701), (91, .ifCond .eq 7, 3, 0, 0, 0), (94, .iconst 1, 1, 0, 0, 0), (95, .goto 4, 3, 0, 0, 0), (98, .iconst 0, 1, 0, 0, 0), (99, .ireturn, 1, 0, 0, 0), (100, .aload_n 0, 1, 0, 0, 0), (101, .bipush 6, 2, 0, 0, 0), (103, .invokevirtual 72, 3, 0, 50, 401), (106, .ifCond .eq 21, 3, 0, 0, 0), (109, .aload_n 0, 1, 0, 0, 0), (110, .getfield 32, 3, 4, 3, 0), (113, .aload_n 0, 1, 0, 0, 0), (114, .getfield 16, 3, 4, 1, 0), (117, .invokevirtual 82, 3, 0, 3, 1), (120, .ifCond .eq 7, 3, 0, 0, 0), (123, .iconst 1, 1, 0, 0, 0), (124, .goto 4, 3, 0, 0, 0), (127, .iconst 0, 1, 0, 0, 0), (128, .ireturn, 1, 0, 0, 0), (129, .iconst 0, 1, 0, 0, 0), (130, .ireturn, 1, 0, 0, 0)]
def vm_m48 : vm_M := (RX5, yX5_readItem, cX5_readItem, 1, (some .boolean), vm_k48)
def vm_k49 : List vm_I := [(0, .aload_n 0, 1, 0, 0, 0), (1, .getfield 16, 3, 4, 1, 0), (4, .invokevirtual 85, 3, 0, 57, 500), (7, .iconst 0, 1, 0, 0, 0), (8, .istore_n 2, 1, 0, 0, 0), (9, .iload_n 2, 1, 0, 0, 0), (10, .iload_n 1, 1, 0, 0, 0), (11, .if_icmp .ge 33, 3, 0, 0, 0), (14, .aload_n 0, 1, 0, 0, 0), (15, .invokevirtual 61, 3, 0, 52, 400), (18, .invokestatic 86, 3, 1, 53, 1), (21, .istore_n 3, 1, 0, 0, 0), (22, .iload_n 3, 1, 0, 0, 0), (23, .bipush (-4), 2, 0, 0, 0), (25, .if_icmp .ne 5, 3, 0, 0, 0), (28, .iconst 0, 1, 0, 0, 0), (29, .ireturn, 1, 0, 0, 0), (30, .aload_n 0, 1, 0, 0, 0), (31, .getfield 16, 3, 4, 1, 0), (34, .iload_n 3, 1, 0, 0, 0), (35, .invokevirtual 89, 3, 0, 58, 501), (38, .iinc 2 1, 3, 0, 0, 0), (41, .goto (-32), 3, 0, 0, 0), (44, .aload_n 0, 1, 0, 0, 0), (45, .invokevirtual 61, 3, 0, 52, 400), (48, .bipush 59, 2, 0, 0, 0), (50, .if_icmp .ne 7, 3, 0, 0, 0), (53, .iconst 1, 1, 0, 0, 0), (54, .goto 4, 3, 0, 0, 0), (57, .iconst 0, 1, 0, 0, 0), (58, .ireturn, 1, 0, 0, 0)]
def vm_m49 : vm_M := (RX5, yX5_readFigures, cX5_readFigures, 4, (some .boolean), vm_k49)
def vm_k50 : List vm_I := [(0, .aload_n 0, 1, 0, 0, 0), (1, .getfield 16, 3, 4, 1, 0), (4, .invokevirtual 85, 3, 0, 57, 500), (7, .iconst 0, 1, 0, 0, 0), (8, .istore_n 2, 1, 0, 0, 0), (9, .iload_n 2, 1, 0, 0, 0), (10, .iload_n 1, 1, 0, 0, 0), (11, .if_icmp .ge 55, 3, 0, 0, 0), (14, .aload_n 0, 1, 0, 0, 0), (15, .invokevirtual 92, 3, 0, 51, 400), (18, .istore_n 3, 1, 0, 0, 0), (19, .iload_n 2, 1, 0, 0, 0), (20, .iload_n 1, 1, 0, 0, 0), (21, .iconst 1, 1, 0, 0, 0), (22, .isub, 1, 0, 0, 0), (23, .if_icmp .ge 8, 3, 0, 0, 0), (26, .bipush 44, 2, 0, 0, 0), (28, .goto 5, 3, 0, 0, 0), (31, .bipush 59, 2, 0, 0, 0), (33, .istore 4, 2, 0, 0, 0), (35, .iload_n 3, 1, 0, 0, 0), (36, .bipush (-4), 2, 0, 0, 0), (38, .if_icmp .eq 12, 3, 0, 0, 0), (41, .aload_n 0, 1, 0, 0, 0), (42, .invokevirtual 61, 3, 0, 52, 400), (45, .iload 4, 2, 0, 0, 0), (47, .if_icmp .eq 5, 3, 0, 0, 0), (50, .iconst 0, 1, 0, 0, 0), (51, .ireturn, 1, 0, 0, 0), (52, .aload_n 0, 1, 0, 0, 0), (53, .getfield 16, 3, 4, 1, 0), (56, .iload_n 3, 1, 0, 0, 0), (57, .invokevirtual 89, 3, 0, 58, 501), (60, .iinc 2 1, 3, 0, 0, 0), (63, .goto (-54), 3, 0, 0, 0), (66, .iconst 1, 1, 0, 0, 0), (67, .ireturn, 1, 0, 0, 0)]
def vm_m50 : vm_M := (RX5, yX5_readNumbers, cX5_readNumbers, 5, (some .boolean), vm_k50)
def vm_k51 : List vm_I := [(0, .aload_n 0, 1, 0, 0, 0), (1, .getfield 36, 3, 4, 0, 0), (4, .aload_n 0, 1, 0, 0, 0), (5, .getfield 51, 3, 4, 4, 0), (8, .invokevirtual 75, 3, 0, 59, 501), (11, .invokestatic 86, 3, 1, 53, 1), (14, .istore_n 1, 1, 0, 0, 0), (15, .aload_n 0, 1, 0, 0, 0), (16, .getfield 36, 3, 4, 0, 0), (19, .aload_n 0, 1, 0, 0, 0), (20, .getfield 51, 3, 4, 4, 0), (23, .iconst 1, 1, 0, 0, 0), (24, .iadd, 1, 0, 0, 0), (25, .invokevirtual 75, 3, 0, 59, 501), (28, .invokestatic 86, 3, 1, 53, 1), (31, .istore_n 2, 1, 0, 0, 0), (32, .iload_n 1, 1, 0, 0, 0), (33, .bipush (-4), 2, 0, 0, 0), (35, .if_icmp .eq 9, 3, 0, 0, 0), (38, .iload_n 2, 1, 0, 0, 0), (39, .bipush (-4), 2, 0, 0, 0), (41, .if_icmp .ne 15, 3, 0, 0, 0), (44, .aload_n 0, 1, 0, 0, 0), (45, .dup, 1, 0, 0, 0), (46, .getfield 51, 3, 4, 4, 0), (49, .iconst 1, 1, 0, 0, 0), (50, .iadd, 1, 0, 0, 0), (51, .putfield 51, 3, 4, 4, 0), (54, .iload_n 1, 1, 0, 0, 0), (55, .ireturn, 1, 0, 0, 0), (56, .aload_n 0, 1, 0, 0, 0), (57, .dup, 1, 0, 0, 0), (58, .getfield 51, 3, 4, 4, 0), (61, .iconst 2, 1, 0, 0, 0), (62, .iadd, 1, 0, 0, 0), (63, .putfield 51, 3, 4, 4, 0), (66, .bipush 10, 2, 0, 0, 0), (68, .iload_n 1, 1, 0, 0, 0), (69, .imul, 1, 0, 0, 0), (70, .iload_n 2, 1, 0, 0, 0), (71, .iadd, 1, 0, 0, 0), (72, .ireturn, 1, 0, 0, 0)]
def vm_m51 : vm_M := (RX5, yX5_readNumber, cX5_readNumber, 3, (some .int), vm_k51)
def vm_k52 : List vm_I := [(0, .aload_n 0, 1, 0, 0, 0), (1, .getfield 36, 3, 4, 0, 0), (4, .aload_n 0, 1, 0, 0, 0), (5, .getfield 51, 3, 4, 4, 0), (8, .invokevirtual 75, 3, 0, 59, 501), (11, .istore_n 1, 1, 0, 0, 0), (12, .aload_n 0, 1, 0, 0, 0), (13, .dup, 1, 0, 0, 0), (14, .getfield 51, 3, 4, 4, 0), (17, .iconst 1, 1, 0, 0, 0), (18, .iadd, 1, 0, 0, 0), (19, .putfield 51, 3, 4, 4, 0), (22, .iload_n 1, 1, 0, 0, 0), (23, .ireturn, 1, 0, 0, 0)]
def vm_m52 : vm_M := (RX5, yX5_take, cX5_take, 2, (some .int), vm_k52)
def vm_k53 : List vm_I := [(0, .iload_n 0, 1, 0, 0, 0), (1, .bipush 48, 2, 0, 0, 0), (3, .if_icmp .lt 16, 3, 0, 0, 0), (6, .iload_n 0, 1, 0, 0, 0), (7, .bipush 57, 2, 0, 0, 0), (9, .if_icmp .gt 10, 3, 0, 0, 0), (12, .iload_n 0, 1, 0, 0, 0), (13, .bipush 48, 2, 0, 0, 0), (15, .isub, 1, 0, 0, 0), (16, .goto 5, 3, 0, 0, 0), (19, .bipush (-4), 2, 0, 0, 0), (21, .ireturn, 1, 0, 0, 0)]
def vm_m53 : vm_M := (RX5, yX5_figureOf, cX5_figureOf, 1, (some .int), vm_k53)
def vm_k54 : List vm_I := [(0, .aload_n 0, 1, 0, 0, 0), (1, .invokespecial 3, 3, 5, 0, 0), (4, .aload_n 0, 1, 0, 0, 0), (5, .iconst 0, 1, 0, 0, 0), (6, .iload_n 1, 1, 0, 0, 0), (7, .invokestatic 9, 3, 1, 202, 2), (10, .newarray .int, 2, 0, 0, 0), (12, .putfield 15, 3, 5, 0, 0), (15, .return_, 1, 0, 0, 0)]
def vm_m54 : vm_M := (RX6, yX6_init, cX6_init, 2, none, vm_k54)
def vm_k55 : List vm_I := [(0, .aload_n 0, 1, 0, 0, 0), (1, .getfield 21, 3, 5, 1, 0), (4, .ireturn, 1, 0, 0, 0)]
def vm_m55 : vm_M := (RX6, yX6_size, cX6_size, 1, (some .int), vm_k55)
def vm_k56 : List vm_I := [(0, .aload_n 0, 1, 0, 0, 0), (1, .getfield 21, 3, 5, 1, 0), (4, .aload_n 0, 1, 0, 0, 0), (5, .getfield 15, 3, 5, 0, 0), (8, .arraylength, 1, 0, 0, 0), (9, .if_icmp .lt 7, 3, 0, 0, 0), (12, .iconst 1, 1, 0, 0, 0), (13, .goto 4, 3, 0, 0, 0), (16, .iconst 0, 1, 0, 0, 0), (17, .ireturn, 1, 0, 0, 0)]
def vm_m56 : vm_M := (RX6, yX6_isFull, cX6_isFull, 1, (some .boolean), vm_k56)
def vm_k57 : List vm_I := [(0, .aload_n 0, 1, 0, 0, 0), (1, .iconst 0, 1, 0, 0, 0), (2, .putfield 21, 3, 5, 1, 0), (5, .return_, 1, 0, 0, 0)]
def vm_m57 : vm_M := (RX6, yX6_clear, cX6_clear, 1, none, vm_k57)
def vm_k58 : List vm_I := [(0, .aload_n 0, 1, 0, 0, 0), (1, .getfield 21, 3, 5, 1, 0), (4, .ifCond .lt 35, 3, 0, 0, 0), (7, .aload_n 0, 1, 0, 0, 0), (8, .getfield 21, 3, 5, 1, 0), (11, .aload_n 0, 1, 0, 0, 0), (12, .getfield 15, 3, 5, 0, 0), (15, .arraylength, 1, 0, 0, 0), (16, .if_icmp .ge 23, 3, 0, 0, 0), (19, .aload_n 0, 1, 0, 0, 0), (20, .getfield 15, 3, 5, 0, 0), (23, .aload_n 0, 1, 0, 0, 0), (24, .getfield 21, 3, 5, 1, 0), (27, .iload_n 1, 1, 0, 0, 0), (28, .iastore, 1, 0, 0, 0), (29, .aload_n 0, 1, 0, 0, 0), (30, .dup, 1, 0, 0, 0), (31, .getfield 21, 3, 5, 1, 0), (34, .iconst 1, 1, 0, 0, 0), (35, .iadd, 1, 0, 0, 0), (36, .putfield 21, 3, 5, 1, 0), (39, .return_, 1, 0, 0, 0)]
def vm_m58 : vm_M := (RX6, yX6_add, cX6_add, 2, none, vm_k58)
def vm_k59 : List vm_I := [(0, .iload_n 1, 1, 0, 0, 0), (1, .ifCond .lt 29, 3, 0, 0, 0), (4, .iload_n 1, 1, 0, 0, 0), (5, .aload_n 0, 1, 0, 0, 0), (6, .getfield 21, 3, 5, 1, 0), (9, .if_icmp .ge 21, 3, 0, 0, 0), (12, .iload_n 1, 1, 0, 0, 0), (13, .aload_n 0, 1, 0, 0, 0), (14, .getfield 15, 3, 5, 0, 0), (17, .arraylength, 1, 0, 0, 0), (18, .if_icmp .ge 12, 3, 0, 0, 0), (21, .aload_n 0, 1, 0, 0, 0), (22, .getfield 15, 3, 5, 0, 0), (25, .iload_n 1, 1, 0, 0, 0), (26, .iaload, 1, 0, 0, 0), (27, .goto 5, 3, 0, 0, 0), (30, .bipush (-4), 2, 0, 0, 0), (32, .ireturn, 1, 0, 0, 0)]
def vm_m59 : vm_M := (RX6, yX6_get, cX6_get, 2, (some .int), vm_k59)
def vm_k60 : List vm_I := [(0, .iload_n 1, 1, 0, 0, 0), (1, .ifCond .lt 27, 3, 0, 0, 0), (4, .iload_n 1, 1, 0, 0, 0), (5, .aload_n 0, 1, 0, 0, 0), (6, .getfield 21, 3, 5, 1, 0), (9, .if_icmp .ge 19, 3, 0, 0, 0), (12, .iload_n 1, 1, 0, 0, 0), (13, .aload_n 0, 1, 0, 0, 0), (14, .getfield 15, 3, 5, 0, 0), (17, .arraylength, 1, 0, 0, 0), (18, .if_icmp .ge 10, 3, 0, 0, 0), (21, .aload_n 0, 1, 0, 0, 0), (22, .getfield 15, 3, 5, 0, 0), (25, .iload_n 1, 1, 0, 0, 0), (26, .iload_n 2, 1, 0, 0, 0), (27, .iastore, 1, 0, 0, 0), (28, .return_, 1, 0, 0, 0)]
def vm_m60 : vm_M := (RX6, yX6_set, cX6_set, 3, none, vm_k60)
def vm_k61 : List vm_I := [(0, .aload_n 0, 1, 0, 0, 0), (1, .aload_n 0, 1, 0, 0, 0), (2, .getfield 15, 3, 5, 0, 0), (5, .arraylength, 1, 0, 0, 0), (6, .putfield 21, 3, 5, 1, 0), (9, .iconst 0, 1, 0, 0, 0), (10, .istore_n 2, 1, 0, 0, 0), (11, .iload_n 2, 1, 0, 0, 0), (12, .aload_n 0, 1, 0, 0, 0), (13, .getfield 15, 3, 5, 0, 0), (16, .arraylength, 1, 0, 0, 0), (17, .if_icmp .ge 16, 3, 0, 0, 0), (20, .aload_n 0, 1, 0, 0, 0), (21, .getfield 15, 3, 5, 0, 0), (24, .iload_n 2, 1, 0, 0, 0), (25, .iload_n 1, 1, 0, 0, 0), (26, .iastore, 1, 0, 0, 0), (27, .iinc 2 1, 3, 0, 0, 0), (30, .goto (-19), 3, 0, 0, 0), (33, .return_, 1, 0, 0, 0)]
def vm_m61 : vm_M := (RX6, yX6_fill, cX6_fill, 3, none, vm_k61)
def vm_k62 : List vm_I := [(0, .aload_n 0, 1, 0, 0, 0), (1, .invokevirtual 25, 3, 0, 57, 500), (4, .iconst 0, 1, 0, 0, 0), (5, .istore_n 2, 1, 0, 0, 0), (6, .iload_n 2, 1, 0, 0, 0), (7, .aload_n 1, 1, 0, 0, 0), (8, .invokevirtual 28, 3, 0, 55, 500), (11, .if_icmp .ge 18, 3, 0, 0, 0), (14, .aload_n 0, 1, 0, 0, 0), (15, .aload_n 1, 1, 0, 0, 0), (16, .iload_n 2, 1, 0, 0, 0), (17, .invokevirtual 31, 3, 0, 59, 501), (20, .invokevirtual 35, 3, 0, 58, 501), (23, .iinc 2 1, 3, 0, 0, 0), (26, .goto (-20), 3, 0, 0, 0), (29, .return_, 1, 0, 0, 0)]
def vm_m62 : vm_M := (RX6, yX6_become, cX6_become, 3, none, vm_k62)
def vm_k63 : List vm_I := [(0, .aload_n 0, 1, 0, 0, 0), (1, .invokespecial 1, 3, 5, 0, 0), (4, .aload_n 0, 1, 0, 0, 0), (5, .iconst 1, 1, 0, 0, 0), (6, .iload_n 1, 1, 0, 0, 0), (7, .invokestatic 7, 3, 1, 202, 2), (10, .anewarray 13, 3, 0, 0, 0), (13, .putfield 15, 3, 6, 0, 0), (16, .iconst 0, 1, 0, 0, 0), (17, .istore_n 3, 1, 0, 0, 0), (18, .iload_n 3, 1, 0, 0, 0), (19, .aload_n 0, 1, 0, 0, 0), (20, .getfield 15, 3, 6, 0, 0), (23, .arraylength, 1, 0, 0, 0), (24, .if_icmp .ge 23, 3, 0, 0, 0), (27, .aload_n 0, 1, 0, 0, 0), (28, .getfield 15, 3, 6, 0, 0), (31, .iload_n 3, 1, 0, 0, 0), (32, .new 13, 3, 0, 0, 0), (35, .dup, 1, 0, 0, 0), (36, .aload_n 2, 1, 0, 0, 0), (37, .invokespecial 21, 3, 2, 0, 1), (40, .aastore, 1, 0, 0, 0), (41, .iinc 3 1, 3, 0, 0, 0), (44, .goto (-26), 3, 0, 0, 0), (47, .return_, 1, 0, 0, 0)]
def vm_m63 : vm_M := (RX7, yX7_init, cX7_init, 4, none, vm_k63)
def vm_k64 : List vm_I := [(0, .aload_n 0, 1, 0, 0, 0), (1, .getfield 24, 3, 6, 2, 0), (4, .ireturn, 1, 0, 0, 0)]
def vm_m64 : vm_M := (RX7, yX7_size, cX7_size, 1, (some .int), vm_k64)
def vm_k65 : List vm_I := [(0, .aload_n 0, 1, 0, 0, 0), (1, .getfield 24, 3, 6, 2, 0), (4, .aload_n 0, 1, 0, 0, 0), (5, .getfield 15, 3, 6, 0, 0), (8, .arraylength, 1, 0, 0, 0), (9, .if_icmp .lt 7, 3, 0, 0, 0), (12, .iconst 1, 1, 0, 0, 0), (13, .goto 4, 3, 0, 0, 0), (16, .iconst 0, 1, 0, 0, 0), (17, .ireturn, 1, 0, 0, 0)]
def vm_m65 : vm_M := (RX7, yX7_isFull, cX7_isFull, 1, (some .boolean), vm_k65)
def vm_k66 : List vm_I := [(0, .aload_n 0, 1, 0, 0, 0), (1, .iconst 0, 1, 0, 0, 0), (2, .putfield 24, 3, 6, 2, 0), (5, .return_, 1, 0, 0, 0)]
def vm_m66 : vm_M := (RX7, yX7_clear, cX7_clear, 1, none, vm_k66)
def vm_k67 : List vm_I := [(0, .aload_n 0, 1, 0, 0, 0), (1, .invokevirtual 28, 3, 0, 65, 600), (4, .ifCond .eq 23, 3, 0, 0, 0), (7, .aload_n 0, 1, 0, 0, 0), (8, .dup, 1, 0, 0, 0), (9, .getfield 32, 3, 6, 1, 0), (12, .iconst 1, 1, 0, 0, 0), (13, .iadd, 1, 0, 0, 0), (14, .putfield 32, 3, 6, 1, 0), (17, .aload_n 0, 1, 0, 0, 0), (18, .dup, 1, 0, 0, 0), (19, .getfield 24, 3, 6, 2, 0), (22, .iconst 1, 1, 0, 0, 0), (23, .isub, 1, 0, 0, 0), (24, .putfield 24, 3, 6, 2, 0), (27, .aload_n 0, 1, 0, 0, 0), (28, .aload_n 0, 1, 0, 0, 0), (29, .getfield 24, 3, 6, 2, 0), (32, .invokevirtual 35, 3, 0, 69, 601), (35, .astore_n 2, 1, 0, 0, 0), (36, .aload_n 2, 1, 0, 0, 0), (37, .ifnull 18, 3, 0, 0, 0), (40, .aload_n 2, 1, 0, 0, 0), (41, .aload_n 1, 1, 0, 0, 0), (42, .invokevirtual 39, 3, 0, 2, 1), (45, .aload_n 0, 1, 0, 0, 0), (46, .dup, 1, 0, 0, 0), (47, .getfield 24, 3, 6, 2, 0), (50, .iconst 1, 1, 0, 0, 0), (51, .iadd, 1, 0, 0, 0), (52, .putfield 24, 3, 6, 2, 0), (55, .return_, 1, 0, 0, 0)]
def vm_m67 : vm_M := (RX7, yX7_push, cX7_push, 3, none, vm_k67)
def vm_k68 : List vm_I := [(0, .aload_n 0, 1, 0, 0, 0), (1, .getfield 24, 3, 6, 2, 0), (4, .ifCond .le 16, 3, 0, 0, 0), (7, .aload_n 0, 1, 0, 0, 0), (8, .aload_n 0, 1, 0, 0, 0), (9, .getfield 24, 3, 6, 2, 0), (12, .iconst 1, 1, 0, 0, 0), (13, .isub, 1, 0, 0, 0), (14, .invokevirtual 35, 3, 0, 69, 601), (17, .goto 4, 3, 0, 0, 0), (20, .aconst_null, 1, 0, 0, 0), (21, .astore_n 2, 1, 0, 0, 0), (22, .aload_n 2, 1, 0, 0, 0), (23, .ifnonnull 5, 3, 0, 0, 0), (26, .iconst 0, 1, 0, 0, 0), (27, .ireturn, 1, 0, 0, 0), (28, .aload_n 1, 1, 0, 0, 0), (29, .aload_n 2, 1, 0, 0, 0), (30, .invokevirtual 39, 3, 0, 2, 1), (33, .aload_n 0, 1, 0, 0, 0), (34, .dup, 1, 0, 0, 0), (35, .getfield 24, 3, 6, 2, 0), (38, .iconst 1, 1, 0, 0, 0), (39, .isub, 1, 0, 0, 0), (40, .putfield 24, 3, 6, 2, 0), (43, .iconst 1, 1, 0, 0, 0), (44, .ireturn, 1, 0, 0, 0)]
def vm_m68 : vm_M := (RX7, yX7_pop, cX7_pop, 3, (some .boolean), vm_k68)
def vm_k69 : List vm_I := [(0, .aload_n 0, 1, 0, 0, 0), (1, .getfield 15, 3, 6, 0, 0), (4, .arraylength, 1, 0, 0, 0), (5, .istore_n 2, 1, 0, 0, 0), (6, .iload_n 2, 1, 0, 0, 0), (7, .ifCond .le 21, 3, 0, 0, 0), (10, .aload_n 0, 1, 0, 0, 0), (11, .getfield 15, 3, 6, 0, 0), (14, .aload_n 0, 1, 0, 0, 0), (15, .getfield 32, 3, 6, 1, 0), (18, .iload_n 1, 1, 0, 0, 0), (19, .iadd, 1, 0, 0, 0), (20, .iload_n 2, 1, 0, 0, 0), (21, .invokestatic 43, 3, 1, 204, 2), (24, .aaload, 1, 0, 0, 0), (25, .goto 4, 3, 0, 0, 0), (28, .aconst_null, 1, 0, 0, 0), (29, .areturn, 1, 0, 0, 0)]
def vm_m69 : vm_M := (RX7, yX7_slotOf, cX7_slotOf, 3, (some (.object "EmberTale$Camp")), vm_k69)
def vm_k70 : List vm_I := [(0, .aload_n 0, 1, 0, 0, 0), (1, .invokespecial 3, 3, 5, 0, 0), (4, .aload_n 0, 1, 0, 0, 0), (5, .new 9, 3, 5, 0, 0), (8, .dup, 1, 0, 0, 0), (9, .bipush 36, 2, 0, 0, 0), (11, .invokespecial 11, 3, 2, 54, 1), (14, .putfield 14, 3, 7, 0, 0), (17, .aload_n 0, 1, 0, 0, 0), (18, .new 9, 3, 5, 0, 0), (21, .dup, 1, 0, 0, 0), (22, .bipush 8, 2, 0, 0, 0), (24, .invokespecial 11, 3, 2, 54, 1), (27, .putfield 20, 3, 7, 1, 0), (30, .aload_n 0, 1, 0, 0, 0), (31, .new 9, 3, 5, 0, 0), (34, .dup, 1, 0, 0, 0), (35, .bipush 9, 2, 0, 0, 0), (37, .invokespecial 11, 3, 2, 54, 1), (40, .putfield 23, 3, 7, 2, 0), (43, .aload_n 0, 1, 0, 0, 0), (44, .new 9, 3, 5, 0, 0), (47, .dup, 1, 0, 0, 0), (48, .bipush 9, 2, 0, 0, 0), (50, .invokespecial 11, 3, 2, 54, 1), (53, .putfield 26, 3, 7, 3, 0), (56, .return_, 1, 0, 0, 0)]
def vm_m70 : vm_M := (RX8, yX8_init, cX8_init, 1, none, vm_k70)
def vm_k71 : List vm_I := [(0, .aload_n 0, 1, 0, 0, 0), (1, .iconst 0, 1, 0, 0, 0), (2, .putfield 29, 3, 7, 4, 0), (5, .aload_n 0, 1, 0, 0, 0), (6, .getfield 14, 3, 7, 0, 0), (9, .invokevirtual 33, 3, 0, 57, 500), (12, .aload_n 0, 1, 0, 0, 0), (13, .getfield 20, 3, 7, 1, 0), (16, .invokevirtual 33, 3, 0, 57, 500), (19, .return_, 1, 0, 0, 0)]
def vm_m71 : vm_M := (RX8, yX8_clear, cX8_clear, 1, none, vm_k71)
def vm_k72 : List vm_I := [(0, .aload_n 0, 1, 0, 0, 0), (1, .aload_n 1, 1, 0, 0, 0), (2, .getfield 29, 3, 7, 4, 0), (5, .putfield 29, 3, 7, 4, 0), (8, .aload_n 0, 1, 0, 0, 0), (9, .getfield 14, 3, 7, 0, 0), (12, .aload_n 1, 1, 0, 0, 0), (13, .getfield 14, 3, 7, 0, 0), (16, .invokevirtual 36, 3, 0, 62, 501), (19, .aload_n 0, 1, 0, 0, 0), (20, .getfield 20, 3, 7, 1, 0), (23, .aload_n 1, 1, 0, 0, 0), (24, .getfield 20, 3, 7, 1, 0), (27, .invokevirtual 36, 3, 0, 62, 501), (30, .return_, 1, 0, 0, 0)]
def vm_m72 : vm_M := (RX8, yX8_become, cX8_become, 2, none, vm_k72)
def vm_k73 : List vm_I := [(0, .aload_n 0, 1, 0, 0, 0), (1, .getfield 14, 3, 7, 0, 0), (4, .invokevirtual 40, 3, 0, 56, 500), (7, .ifCond .eq 5, 3, 0, 0, 0), (10, .iconst 0, 1, 0, 0, 0), (11, .ireturn, 1, 0, 0, 0), (12, .iconst 0, 1, 0, 0, 0), (13, .istore_n 2, 1, 0, 0, 0), (14, .iload_n 2, 1, 0, 0, 0), (15, .iconst 4, 1, 0, 0, 0), (16, .if_icmp .ge 21, 3, 0, 0, 0), (19, .aload_n 0, 1, 0, 0, 0), (20, .getfield 14, 3, 7, 0, 0), (23, .aload_n 1, 1, 0, 0, 0), (24, .iload_n 2, 1, 0, 0, 0), (25, .invokevirtual 44, 3, 0, 59, 501), (28, .invokevirtual 48, 3, 0, 58, 501), (31, .iinc 2 1, 3, 0, 0, 0), (34, .goto (-20), 3, 0, 0, 0), (37, .aload_n 0, 1, 0, 0, 0), (38, .dup, 1, 0, 0, 0), (39, .getfield 29, 3, 7, 4, 0), (42, .iconst 1, 1, 0, 0, 0), (43, .iadd, 1, 0, 0, 0), (44, .putfield 29, 3, 7, 4, 0), (47, .iconst 1, 1, 0, 0, 0), (48, .ireturn, 1, 0, 0, 0)]
def vm_m73 : vm_M := (RX8, yX8_addLine, cX8_addLine, 3, (some .boolean), vm_k73)
def vm_k74 : List vm_I := [(0, .aload_n 0, 1, 0, 0, 0), (1, .getfield 20, 3, 7, 1, 0), (4, .invokevirtual 40, 3, 0, 56, 500), (7, .ifCond .ne 12, 3, 0, 0, 0), (10, .iload_n 1, 1, 0, 0, 0), (11, .iconst 0, 1, 0, 0, 0), (12, .iconst 3, 1, 0, 0, 0), (13, .invokestatic 51, 3, 3, 126, 3), (16, .ifCond .ne 5, 3, 0, 0, 0), (19, .iconst 0, 1, 0, 0, 0), (20, .ireturn, 1, 0, 0, 0), (21, .aload_n 0, 1, 0, 0, 0), (22, .getfield 20, 3, 7, 1, 0), (25, .iload_n 1, 1, 0, 0, 0), (26, .invokevirtual 48, 3, 0, 58, 501), (29, .iconst 1, 1, 0, 0, 0), (30, .ireturn, 1, 0, 0, 0)]
def vm_m74 : vm_M := (RX8, yX8_addRain, cX8_addRain, 2, (some .boolean), vm_k74)
def vm_k75 : List vm_I := [(0, .aload_n 0, 1, 0, 0, 0), (1, .getfield 29, 3, 7, 4, 0), (4, .ireturn, 1, 0, 0, 0)]
def vm_m75 : vm_M := (RX8, yX8_lines, cX8_lines, 1, (some .int), vm_k75)
def vm_k76 : List vm_I := [(0, .iload_n 1, 1, 0, 0, 0), (1, .ifCond .lt 15, 3, 0, 0, 0), (4, .iload_n 1, 1, 0, 0, 0), (5, .aload_n 0, 1, 0, 0, 0), (6, .getfield 29, 3, 7, 4, 0), (9, .if_icmp .ge 7, 3, 0, 0, 0), (12, .iconst 1, 1, 0, 0, 0), (13, .goto 4, 3, 0, 0, 0), (16, .iconst 0, 1, 0, 0, 0), (17, .ireturn, 1, 0, 0, 0)]
def vm_m76 : vm_M := (RX8, yX8_isLine, cX8_isLine, 2, (some .boolean), vm_k76)
def vm_k77 : List vm_I := [(0, .iconst 0, 1, 0, 0, 0), (1, .istore_n 1, 1, 0, 0, 0), (2, .iload_n 1, 1, 0, 0, 0), (3, .aload_n 0, 1, 0, 0, 0), (4, .getfield 14, 3, 7, 0, 0), (7, .invokevirtual 55, 3, 0, 55, 500), (10, .if_icmp .ge 34, 3, 0, 0, 0), (13, .aload_n 0, 1, 0, 0, 0), (14, .getfield 14, 3, 7, 0, 0), (17, .iload_n 1, 1, 0, 0, 0), (18, .invokevirtual 44, 3, 0, 59, 501), (21, .istore_n 2, 1, 0, 0, 0), (22, .iload_n 2, 1, 0, 0, 0), (23, .bipush 9, 2, 0, 0, 0), (25, .if_icmp .eq 13, 3, 0, 0, 0), (28, .aload_n 0, 1, 0, 0, 0), (29, .iload_n 2, 1, 0, 0, 0), (30, .invokevirtual 59, 3, 0, 76, 701), (33, .ifCond .ne 5, 3, 0, 0, 0), (36, .iconst 0, 1, 0, 0, 0), (37, .ireturn, 1, 0, 0, 0), (38, .iinc 1 1, 3, 0, 0, 0), (41, .goto (-39), 3, 0, 0, 0), (44, .iconst 1, 1, 0, 0, 0), (45, .ireturn, 1, 0, 0, 0)]
def vm_m77 : vm_M := (RX8, yX8_tellsAllItNames, cX8_tellsAllItNames, 3, (some .boolean), vm_k77)
def vm_k78 : List vm_I := [(0, .aload_n 0, 1, 0, 0, 0), (1, .iload_n 1, 1, 0, 0, 0), (2, .invokevirtual 59, 3, 0, 76, 701), (5, .ifCond .eq 10, 3, 0, 0, 0), (8, .iload_n 2, 1, 0, 0, 0), (9, .invokestatic 63, 3, 3, 125, 1), (12, .ifCond .ne 6, 3, 0, 0, 0), (15, .bipush (-4), 2, 0, 0, 0), (17, .ireturn, 1, 0, 0, 0), (18, .aload_n 0, 1, 0, 0, 0), (19, .getfield 14, 3, 7, 0, 0), (22, .iload_n 1, 1, 0, 0, 0), (23, .iconst 4, 1, 0, 0, 0), (24, .imul, 1, 0, 0, 0), (25, .iload_n 2, 1, 0, 0, 0), (26, .iadd, 1, 0, 0, 0), (27, .invokevirtual 44, 3, 0, 59, 501), (30, .istore_n 3, 1, 0, 0, 0), (31, .iload_n 3, 1, 0, 0, 0), (32, .bipush 9, 2, 0, 0, 0), (34, .if_icmp .ne 8, 3, 0, 0, 0), (37, .bipush (-4), 2, 0, 0, 0), (39, .goto 4, 3, 0, 0, 0), (42, .iload_n 3, 1, 0, 0, 0), (43, .ireturn, 1, 0, 0, 0)]
def vm_m78 : vm_M := (RX8, yX8_behind, cX8_behind, 4, (some .int), vm_k78)
def vm_k79 : List vm_I := [(0, .aload_n 0, 1, 0, 0, 0), (1, .iload_n 1, 1, 0, 0, 0), (2, .iload_n 2, 1, 0, 0, 0), (3, .invokevirtual 66, 3, 0, 78, 702), (6, .istore_n 3, 1, 0, 0, 0), (7, .iload_n 3, 1, 0, 0, 0), (8, .bipush (-4), 2, 0, 0, 0), (10, .if_icmp .ne 7, 3, 0, 0, 0), (13, .iload_n 1, 1, 0, 0, 0), (14, .goto 4, 3, 0, 0, 0), (17, .iload_n 3, 1, 0, 0, 0), (18, .ireturn, 1, 0, 0, 0)]
def vm_m79 : vm_M := (RX8, yX8_comingFrom, cX8_comingFrom, 4, (some .int), vm_k79)
def vm_k80 : List vm_I := [(0, .aload_n 0, 1, 0, 0, 0), (1, .getfield 20, 3, 7, 1, 0), (4, .invokevirtual 55, 3, 0, 55, 500), (7, .istore_n 2, 1, 0, 0, 0), (8, .iload_n 2, 1, 0, 0, 0), (9, .ifCond .le 18, 3, 0, 0, 0), (12, .aload_n 0, 1, 0, 0, 0), (13, .getfield 20, 3, 7, 1, 0), (16, .iload_n 1, 1, 0, 0, 0), (17, .iload_n 2, 1, 0, 0, 0), (18, .invokestatic 70, 3, 1, 204, 2), (21, .invokevirtual 44, 3, 0, 59, 501), (24, .goto 4, 3, 0, 0, 0), (27, .iconst 0, 1, 0, 0, 0), (28, .ireturn, 1, 0, 0, 0)]
def vm_m80 : vm_M := (RX8, yX8_rainAt, cX8_rainAt, 3, (some .int), vm_k80)
def vm_k81 : List vm_I := [(0, .iconst 1, 1, 0, 0, 0), (1, .iload_n 1, 1, 0, 0, 0), (2, .ishl, 1, 0, 0, 0), (3, .istore_n 2, 1, 0, 0, 0), (4, .iconst 1, 1, 0, 0, 0), (5, .istore_n 3, 1, 0, 0, 0), (6, .iload_n 3, 1, 0, 0, 0), (7, .aload_n 0, 1, 0, 0, 0), (8, .getfield 29, 3, 7, 4, 0), (11, .if_icmp .ge 17, 3, 0, 0, 0), (14, .iload_n 2, 1, 0, 0, 0), (15, .aload_n 0, 1, 0, 0, 0), (16, .iload_n 2, 1, 0, 0, 0), (17, .invokevirtual 75, 3, 0, 82, 701), (20, .ior, 1, 0, 0, 0), (21, .istore_n 2, 1, 0, 0, 0), (22, .iinc 3 1, 3, 0, 0, 0), (25, .goto (-19), 3, 0, 0, 0), (28, .iload_n 2, 1, 0, 0, 0), (29, .ireturn, 1, 0, 0, 0)]
def vm_m81 : vm_M := (RX8, yX8_reached, cX8_reached, 4, (some .int), vm_k81)
def vm_k82 : List vm_I := [(0, .iconst 0, 1, 0, 0, 0), (1, .istore_n 2, 1, 0, 0, 0), (2, .iconst 0, 1, 0, 0, 0), (3, .istore_n 3, 1, 0, 0, 0), (4, .iload_n 3, 1, 0, 0, 0), (5, .aload_n 0, 1, 0, 0, 0), (6, .getfield 29, 3, 7, 4, 0), (9, .if_icmp .ge 45, 3, 0, 0, 0), (12, .iconst 0, 1, 0, 0, 0), (13, .istore 4, 2, 0, 0, 0), (15, .iload 4, 2, 0, 0, 0), (17, .iconst 4, 1, 0, 0, 0), (18, .if_icmp .ge 30, 3, 0, 0, 0), (21, .iload_n 1, 1, 0, 0, 0), (22, .iload_n 3, 1, 0, 0, 0), (23, .ishr, 1, 0, 0, 0), (24, .iconst 1, 1, 0, 0, 0), (25, .iand, 1, 0, 0, 0), (26, .iconst 1, 1, 0, 0, 0), (27, .if_icmp .ne 21, 3, 0, 0, 0), (30, .iload_n 2, 1, 0, 0, 0), (31, .iconst 1, 1, 0, 0, 0), (32, .aload_n 0, 1, 0, 0, 0), (33, .iload_n 3, 1, 0, 0, 0), (34, .iload 4, 2, 0, 0, 0), (36, .invokevirtual 78, 3, 0, 79, 702), (39, .ishl, 1, 0, 0, 0), (40, .ior, 1, 0, 0, 0), (41, .istore_n 2, 1, 0, 0, 0), (42, .iinc 4 1, 3, 0, 0, 0), (45, .goto (-30), 3, 0, 0, 0), (48, .iinc 3 1, 3, 0, 0, 0), (51, .goto (-47), 3, 0, 0, 0), (54, .iload_n 2, 1, 0, 0, 0), (55, .ireturn, 1, 0, 0, 0)]
def vm_m82 : vm_M := (RX8, yX8_oneStepOn, cX8_oneStepOn, 5, (some .int), vm_k82)
def vm_k83 : List vm_I := [(0, .iconst 0, 1, 0, 0, 0), (1, .istore_n 3, 1, 0, 0, 0), (2, .iconst 0, 1, 0, 0, 0), (3, .istore 4, 2, 0, 0, 0), (5, .iload 4, 2, 0, 0, 0), (7, .aload_n 0, 1, 0, 0, 0), (8, .getfield 29, 3, 7, 4, 0), (11, .if_icmp .ge 27, 3, 0, 0, 0), (14, .aload_n 0, 1, 0, 0, 0), (15, .iload 4, 2, 0, 0, 0), (17, .aload_n 1, 1, 0, 0, 0), (18, .invokevirtual 81, 3, 0, 84, 702), (21, .iload_n 2, 1, 0, 0, 0), (22, .if_icmp .ne 10, 3, 0, 0, 0), (25, .iload_n 3, 1, 0, 0, 0), (26, .iconst 1, 1, 0, 0, 0), (27, .iload 4, 2, 0, 0, 0), (29, .ishl, 1, 0, 0, 0), (30, .ior, 1, 0, 0, 0), (31, .istore_n 3, 1, 0, 0, 0), (32, .iinc 4 1, 3, 0, 0, 0), (35, .goto (-30), 3, 0, 0, 0), (38, .iload_n 3, 1, 0, 0, 0), (39, .ireturn, 1, 0, 0, 0)]
def vm_m83 : vm_M := (RX8, yX8_origins, cX8_origins, 5, (some .int), vm_k83)
def vm_k84 : List vm_I := [(0, .iload_n 1, 1, 0, 0, 0), (1, .istore_n 3, 1, 0, 0, 0), (2, .iconst 0, 1, 0, 0, 0), (3, .istore 4, 2, 0, 0, 0), (5, .iload 4, 2, 0, 0, 0), (7, .aload_n 2, 1, 0, 0, 0), (8, .invokevirtual 55, 3, 0, 55, 500), (11, .if_icmp .ge 21, 3, 0, 0, 0), (14, .aload_n 0, 1, 0, 0, 0), (15, .iload_n 3, 1, 0, 0, 0), (16, .aload_n 2, 1, 0, 0, 0), (17, .iload 4, 2, 0, 0, 0), (19, .invokevirtual 44, 3, 0, 59, 501), (22, .invokevirtual 78, 3, 0, 79, 702), (25, .istore_n 3, 1, 0, 0, 0), (26, .iinc 4 1, 3, 0, 0, 0), (29, .goto (-24), 3, 0, 0, 0), (32, .iload_n 3, 1, 0, 0, 0), (33, .ireturn, 1, 0, 0, 0)]
def vm_m84 : vm_M := (RX8, yX8_endOf, cX8_endOf, 5, (some .int), vm_k84)
def vm_k85 : List vm_I := [(0, .aload_n 0, 1, 0, 0, 0), (1, .getfield 23, 3, 7, 2, 0), (4, .iconst 0, 1, 0, 0, 0), (5, .invokevirtual 85, 3, 0, 61, 501), (8, .aload_n 0, 1, 0, 0, 0), (9, .getfield 23, 3, 7, 2, 0), (12, .iload_n 1, 1, 0, 0, 0), (13, .iconst 1, 1, 0, 0, 0), (14, .invokevirtual 88, 3, 0, 60, 502), (17, .iconst 0, 1, 0, 0, 0), (18, .istore 4, 2, 0, 0, 0), (20, .iload 4, 2, 0, 0, 0), (22, .iload_n 3, 1, 0, 0, 0), (23, .if_icmp .ge 13, 3, 0, 0, 0), (26, .aload_n 0, 1, 0, 0, 0), (27, .invokevirtual 92, 3, 0, 86, 700), (30, .iinc 4 1, 3, 0, 0, 0), (33, .goto (-13), 3, 0, 0, 0), (36, .aload_n 0, 1, 0, 0, 0), (37, .getfield 23, 3, 7, 2, 0), (40, .iload_n 2, 1, 0, 0, 0), (41, .invokevirtual 44, 3, 0, 59, 501), (44, .ireturn, 1, 0, 0, 0)]
def vm_m85 : vm_M := (RX8, yX8_waysBetween, cX8_waysBetween, 5, (some .int), vm_k85)
def vm_k86 : List vm_I := [(0, .aload_n 0, 1, 0, 0, 0), (1, .getfield 26, 3, 7, 3, 0), (4, .iconst 0, 1, 0, 0, 0), (5, .invokevirtual 85, 3, 0, 61, 501), (8, .iconst 0, 1, 0, 0, 0), (9, .istore_n 1, 1, 0, 0, 0), (10, .iload_n 1, 1, 0, 0, 0), (11, .aload_n 0, 1, 0, 0, 0), (12, .getfield 29, 3, 7, 4, 0), (15, .if_icmp .ge 54, 3, 0, 0, 0), (18, .iconst 0, 1, 0, 0, 0), (19, .istore_n 2, 1, 0, 0, 0), (20, .iload_n 2, 1, 0, 0, 0), (21, .iconst 4, 1, 0, 0, 0), (22, .if_icmp .ge 41, 3, 0, 0, 0), (25, .aload_n 0, 1, 0, 0, 0), (26, .iload_n 1, 1, 0, 0, 0), (27, .iload_n 2, 1, 0, 0, 0), (28, .invokevirtual 78, 3, 0, 79, 702), (31, .istore_n 3, 1, 0, 0, 0), (32, .aload_n 0, 1, 0, 0, 0), (33, .getfield 26, 3, 7, 3, 0), (36, .iload_n 3, 1, 0, 0, 0), (37, .aload_n 0, 1, 0, 0, 0), (38, .getfield 26, 3, 7, 3, 0), (41, .iload_n 3, 1, 0, 0, 0), (42, .invokevirtual 44, 3, 0, 59, 501), (45, .aload_n 0, 1, 0, 0, 0), (46, .getfield 23, 3, 7, 2, 0), (49, .iload_n 1, 1, 0, 0, 0), (50, .invokevirtual 44, 3, 0, 59, 501), (53, .iadd, 1, 0, 0, 0), (54, .invokevirtual 88, 3, 0, 60, 502), (57, .iinc 2 1, 3, 0, 0, 0), (60, .goto (-40), 3, 0, 0, 0), (63, .iinc 1 1, 3, 0, 0, 0), (66, .goto (-56), 3, 0, 0, 0), (69, .aload_n 0, 1, 0, 0, 0), (70, .getfield 23, 3, 7, 2, 0), (73, .aload_n 0, 1, 0, 0, 0), (74, .getfield 26, 3, 7, 3, 0), (77, .invokevirtual 36, 3, 0, 62, 501), (80, .return_, 1, 0, 0, 0)]
def vm_m86 : vm_M := (RX8, yX8_lengthenWays, cX8_lengthenWays, 4, none, vm_k86)
def vm_k87 : List vm_I := [(0, .aload_n 0, 1, 0, 0, 0), (1, .invokespecial 3, 3, 5, 0, 0), (4, .aload_n 0, 1, 0, 0, 0), (5, .new 9, 3, 5, 0, 0), (8, .dup, 1, 0, 0, 0), (9, .iconst 4, 1, 0, 0, 0), (10, .invokespecial 11, 3, 2, 54, 1), (13, .putfield 14, 3, 8, 1, 0), (16, .aload_n 0, 1, 0, 0, 0), (17, .new 9, 3, 5, 0, 0), (20, .dup, 1, 0, 0, 0), (21, .bipush 6, 2, 0, 0, 0), (23, .invokespecial 11, 3, 2, 54, 1), (26, .putfield 20, 3, 8, 2, 0), (29, .aload_n 0, 1, 0, 0, 0), (30, .aload_n 1, 1, 0, 0, 0), (31, .putfield 23, 3, 8, 0, 0), (34, .return_, 1, 0, 0, 0)]
def vm_m87 : vm_M := (RX9, yX9_init, cX9_init, 2, none, vm_k87)
def vm_k88 : List vm_I := [(0, .aload_n 0, 1, 0, 0, 0), (1, .getfield 23, 3, 8, 0, 0), (4, .aload_n 1, 1, 0, 0, 0), (5, .iload_n 2, 1, 0, 0, 0), (6, .iconst 1, 1, 0, 0, 0), (7, .invokevirtual 29, 3, 0, 7, 2), (10, .invokevirtual 33, 3, 0, 81, 701), (13, .iload_n 3, 1, 0, 0, 0), (14, .ishr, 1, 0, 0, 0), (15, .iconst 1, 1, 0, 0, 0), (16, .iand, 1, 0, 0, 0), (17, .ifCond .ne 6, 3, 0, 0, 0), (20, .bipush (-4), 2, 0, 0, 0), (22, .ireturn, 1, 0, 0, 0), (23, .aload_n 0, 1, 0, 0, 0), (24, .iload_n 3, 1, 0, 0, 0), (25, .putfield 39, 3, 8, 3, 0), (28, .aload_n 0, 1, 0, 0, 0), (29, .getfield 14, 3, 8, 1, 0), (32, .invokevirtual 43, 3, 0, 57, 500), (35, .iconst 0, 1, 0, 0, 0), (36, .istore 4, 2, 0, 0, 0), (38, .iload 4, 2, 0, 0, 0), (40, .iconst 4, 1, 0, 0, 0), (41, .if_icmp .ge 25, 3, 0, 0, 0), (44, .aload_n 0, 1, 0, 0, 0), (45, .getfield 14, 3, 8, 1, 0), (48, .aload_n 1, 1, 0, 0, 0), (49, .iload_n 2, 1, 0, 0, 0), (50, .iconst 2, 1, 0, 0, 0), (51, .iload 4, 2, 0, 0, 0), (53, .iadd, 1, 0, 0, 0), (54, .invokevirtual 29, 3, 0, 7, 2), (57, .invokevirtual 46, 3, 0, 58, 501), (60, .iinc 4 1, 3, 0, 0, 0), (63, .goto (-25), 3, 0, 0, 0), (66, .aload_n 0, 1, 0, 0, 0), (67, .getfield 20, 3, 8, 2, 0), (70, .bipush (-4), 2, 0, 0, 0), (72, .invokevirtual 49, 3, 0, 61, 501), (75, .iconst 0, 1, 0, 0, 0), (76, .istore 4, 2, 0, 0, 0), (78, .iload 4, 2, 0, 0, 0), (80, .bipush 6, 2, 0, 0, 0), (82, .if_icmp .gt 38, 3, 0, 0, 0), (85, .aload_n 0, 1, 0, 0, 0), (86, .iload 4, 2, 0, 0, 0), (88, .putfield 52, 3, 8, 4, 0), (91, .aload_n 0, 1, 0, 0, 0), (92, .iconst 0, 1, 0, 0, 0), (93, .aload_n 1, 1, 0, 0, 0), (94, .iload_n 2, 1, 0, 0, 0), (95, .iconst 0, 1, 0, 0, 0), (96, .invokevirtual 29, 3, 0, 7, 2), (99, .aload_n 1, 1, 0, 0, 0), (100, .iload_n 2, 1, 0, 0, 0), (101, .iconst 1, 1, 0, 0, 0), (102, .invokevirtual 29, 3, 0, 7, 2), (105, .invokevirtual 55, 3, 0, 90, 803), (108, .ifCond .eq 6, 3, 0, 0, 0), (111, .iload 4, 2, 0, 0, 0), (113, .ireturn, 1, 0, 0, 0), (114, .iinc 4 1, 3, 0, 0, 0), (117, .goto (-39), 3, 0, 0, 0), (120, .bipush (-4), 2, 0, 0, 0), (122, .ireturn, 1, 0, 0, 0)]
def vm_m88 : vm_M := (RX9, yX9_fewest, cX9_fewest, 5, (some .int), vm_k88)
def vm_k89 : List vm_I := [(0, .iload_n 1, 1, 0, 0, 0), (1, .aload_n 0, 1, 0, 0, 0), (2, .getfield 52, 3, 8, 4, 0), (5, .if_icmp .ge 14, 3, 0, 0, 0), (8, .aload_n 0, 1, 0, 0, 0), (9, .getfield 20, 3, 8, 2, 0), (12, .iload_n 1, 1, 0, 0, 0), (13, .invokevirtual 59, 3, 0, 59, 501), (16, .goto 5, 3, 0, 0, 0), (19, .bipush (-4), 2, 0, 0, 0), (21, .ireturn, 1, 0, 0, 0)]
def vm_m89 : vm_M := (RX9, yX9_woodAt, cX9_woodAt, 2, (some .int), vm_k89)
def vm_k90 : List vm_I := [(0, .iload_n 1, 1, 0, 0, 0), (1, .aload_n 0, 1, 0, 0, 0), (2, .getfield 52, 3, 8, 4, 0), (5, .if_icmp .lt 17, 3, 0, 0, 0), (8, .iload_n 3, 1, 0, 0, 0), (9, .aload_n 0, 1, 0, 0, 0), (10, .getfield 39, 3, 8, 3, 0), (13, .if_icmp .ne 7, 3, 0, 0, 0), (16, .iconst 1, 1, 0, 0, 0), (17, .goto 4, 3, 0, 0, 0), (20, .iconst 0, 1, 0, 0, 0), (21, .ireturn, 1, 0, 0, 0), (22, .iconst 0, 1, 0, 0, 0), (23, .istore 4, 2, 0, 0, 0), (25, .iload 4, 2, 0, 0, 0), (27, .iconst 4, 1, 0, 0, 0), (28, .if_icmp .ge 23, 3, 0, 0, 0), (31, .aload_n 0, 1, 0, 0, 0), (32, .iload 4, 2, 0, 0, 0), (34, .iload_n 1, 1, 0, 0, 0), (35, .iload_n 2, 1, 0, 0, 0), (36, .iload_n 3, 1, 0, 0, 0), (37, .invokevirtual 61, 3, 0, 91, 804), (40, .ifCond .eq 5, 3, 0, 0, 0), (43, .iconst 1, 1, 0, 0, 0), (44, .ireturn, 1, 0, 0, 0), (45, .iinc 4 1, 3, 0, 0, 0), (48, .goto (-23), 3, 0, 0, 0), (51, .iconst 0, 1, 0, 0, 0), (52, .ireturn, 1, 0, 0, 0)]
def vm_m90 : vm_M := (RX9, yX9_isTold, cX9_isTold, 5, (some .boolean), vm_k90)
def vm_k91 : List vm_I := [(0, .iload_n 3, 1, 0, 0, 0), (1, .iload_n 1, 1, 0, 0, 0), (2, .invokestatic 65, 3, 1, 30, 2), (5, .istore 5, 2, 0, 0, 0), (7, .aload_n 0, 1, 0, 0, 0), (8, .getfield 14, 3, 8, 1, 0), (11, .iload_n 1, 1, 0, 0, 0), (12, .invokevirtual 59, 3, 0, 59, 501), (15, .iconst 1, 1, 0, 0, 0), (16, .if_icmp .lt 9, 3, 0, 0, 0), (19, .iload 5, 2, 0, 0, 0), (21, .iconst 1, 1, 0, 0, 0), (22, .if_icmp .ge 5, 3, 0, 0, 0), (25, .iconst 0, 1, 0, 0, 0), (26, .ireturn, 1, 0, 0, 0), (27, .aload_n 0, 1, 0, 0, 0), (28, .getfield 14, 3, 8, 1, 0), (31, .iload_n 1, 1, 0, 0, 0), (32, .aload_n 0, 1, 0, 0, 0), (33, .getfield 14, 3, 8, 1, 0), (36, .iload_n 1, 1, 0, 0, 0), (37, .invokevirtual 59, 3, 0, 59, 501), (40, .iconst 1, 1, 0, 0, 0), (41, .isub, 1, 0, 0, 0), (42, .invokevirtual 70, 3, 0, 60, 502), (45, .aload_n 0, 1, 0, 0, 0), (46, .getfield 20, 3, 8, 2, 0), (49, .iload_n 2, 1, 0, 0, 0), (50, .iload_n 1, 1, 0, 0, 0), (51, .invokevirtual 70, 3, 0, 60, 502), (54, .aload_n 0, 1, 0, 0, 0), (55, .iload_n 2, 1, 0, 0, 0), (56, .iconst 1, 1, 0, 0, 0), (57, .iadd, 1, 0, 0, 0), (58, .iload 5, 2, 0, 0, 0), (60, .aload_n 0, 1, 0, 0, 0), (61, .getfield 23, 3, 8, 0, 0), (64, .iload 4, 2, 0, 0, 0), (66, .iload_n 1, 1, 0, 0, 0), (67, .invokevirtual 74, 3, 0, 79, 702), (70, .invokevirtual 55, 3, 0, 90, 803), (73, .istore 6, 2, 0, 0, 0), (75, .aload_n 0, 1, 0, 0, 0), (76, .getfield 14, 3, 8, 1, 0), (79, .iload_n 1, 1, 0, 0, 0), (80, .aload_n 0, 1, 0, 0, 0), (81, .getfield 14, 3, 8, 1, 0), (84, .iload_n 1, 1, 0, 0, 0), (85, .invokevirtual 59, 3, 0, 59, 501), (88, .iconst 1, 1, 0, 0, 0), (89, .iadd, 1, 0, 0, 0), (90, .invokevirtual 70, 3, 0, 60, 502), (93, .iload 6, 2, 0, 0, 0), (95, .ireturn, 1, 0, 0, 0)]
def vm_m91 : vm_M := (RX9, yX9_isToldBy, cX9_isToldBy, 7, (some .boolean), vm_k91)
def vm_k92 : List vm_I := [(0, .aload_n 0, 1, 0, 0, 0), (1, .invokespecial 1, 3, 5, 0, 0), (4, .aload_n 0, 1, 0, 0, 0), (5, .new 7, 3, 5, 0, 0), (8, .dup, 1, 0, 0, 0), (9, .sipush 200, 3, 0, 0, 0), (12, .invokespecial 11, 3, 2, 54, 1), (15, .putfield 14, 3, 9, 0, 0), (18, .aload_n 0, 1, 0, 0, 0), (19, .new 7, 3, 5, 0, 0), (22, .dup, 1, 0, 0, 0), (23, .bipush 6, 2, 0, 0, 0), (25, .invokespecial 11, 3, 2, 54, 1), (28, .putfield 18, 3, 9, 1, 0), (31, .aload_n 0, 1, 0, 0, 0), (32, .new 21, 3, 7, 0, 0), (35, .dup, 1, 0, 0, 0), (36, .invokespecial 23, 3, 4, 70, 0), (39, .putfield 24, 3, 9, 2, 0), (42, .aload_n 0, 1, 0, 0, 0), (43, .new 28, 3, 0, 0, 0), (46, .dup, 1, 0, 0, 0), (47, .aload_n 0, 1, 0, 0, 0), (48, .getfield 24, 3, 9, 2, 0), (51, .invokespecial 30, 3, 2, 0, 1), (54, .putfield 33, 3, 9, 3, 0), (57, .aload_n 0, 1, 0, 0, 0), (58, .new 28, 3, 0, 0, 0), (61, .dup, 1, 0, 0, 0), (62, .aload_n 0, 1, 0, 0, 0), (63, .getfield 24, 3, 9, 2, 0), (66, .invokespecial 30, 3, 2, 0, 1), (69, .putfield 37, 3, 9, 4, 0), (72, .aload_n 0, 1, 0, 0, 0), (73, .new 40, 3, 6, 0, 0), (76, .dup, 1, 0, 0, 0), (77, .bipush 8, 2, 0, 0, 0), (79, .aload_n 0, 1, 0, 0, 0), (80, .getfield 24, 3, 9, 2, 0), (83, .invokespecial 42, 3, 2, 63, 2), (86, .putfield 45, 3, 9, 5, 0), (89, .aload_n 0, 1, 0, 0, 0), (90, .new 40, 3, 6, 0, 0), (93, .dup, 1, 0, 0, 0), (94, .iconst 2, 1, 0, 0, 0), (95, .aload_n 0, 1, 0, 0, 0), (96, .getfield 24, 3, 9, 2, 0), (99, .invokespecial 42, 3, 2, 63, 2), (102, .putfield 49, 3, 9, 6, 0), (105, .aload_n 0, 1, 0, 0, 0), (106, .new 52, 3, 4, 0, 0), (109, .dup, 1, 0, 0, 0), (110, .aload_n 0, 1, 0, 0, 0), (111, .getfield 14, 3, 9, 0, 0), (114, .invokespecial 54, 3, 2, 43, 1), (117, .putfield 57, 3, 9, 7, 0), (120, .aload_n 0, 1, 0, 0, 0), (121, .new 61, 3, 2, 0, 0), (124, .dup, 1, 0, 0, 0), (125, .aload_n 0, 1, 0, 0, 0), (126, .getfield 24, 3, 9, 2, 0), (129, .invokespecial 63, 3, 2, 33, 1), (132, .putfield 64, 3, 9, 8, 0), (135, .aload_n 0, 1, 0, 0, 0), (136, .new 68, 3, 8, 0, 0), (139, .dup, 1, 0, 0, 0), (140, .aload_n 0, 1, 0, 0, 0), (141, .getfield 24, 3, 9, 2, 0), (144, .invokespecial 70, 3, 2, 87, 1), (147, .putfield 71, 3, 9, 9, 0), (150, .aload_n 0, 1, 0, 0, 0), (151, .new 75, 3, 3, 0, 0), (154, .dup, 1, 0, 0, 0), (155, .aload_n 0, 1, 0, 0, 0), (156, .getfield 24, 3, 9, 2, 0), (159, .invokespecial 77, 3, 2, 38, 1), (162, .putfield 78, 3, 9, 10, 0), (165, .aload_n 0, 1, 0, 0, 0), (166, .new 82, 3, 1, 0, 0), (169, .dup, 1, 0, 0, 0), (170, .aload_n 0, 1, 0, 0, 0), (171, .getfield 24, 3, 9, 2, 0), (174, .invokespecial 84, 3, 2, 25, 1), (177, .putfield 85, 3, 9, 11, 0), (180, .iconst 0, 1, 0, 0, 0), (181, .istore_n 1, 1, 0, 0, 0), (182, .iload_n 1, 1, 0, 0, 0), (183, .ldc 89, 2, 99, 0, 0), (185, .invokevirtual 91, 3, 6, 0, 0), (188, .if_icmp .ge 22, 3, 0, 0, 0), (191, .aload_n 0, 1, 0, 0, 0), (192, .getfield 14, 3, 9, 0, 0), (195, .ldc 89, 2, 99, 0, 0), (197, .iload_n 1, 1, 0, 0, 0), (198, .invokevirtual 97, 3, 7, 0, 0), (201, .invokevirtual 101, 3, 0, 58, 501), (204, .iinc 1 1, 3, 0, 0, 0), (207, .goto (-25), 3, 0, 0, 0), (210, .aload_n 0, 1, 0, 0, 0), (211, .invokevirtual 104, 3, 0, 121, 900), (214, .pop, 1, 0, 0, 0), (215, .aload_n 0, 1, 0, 0, 0), (216, .getfield 14, 3, 9, 0, 0), (219, .invokevirtual 108, 3, 0, 57, 500), (222, .return_, 1, 0, 0, 0)]
def vm_m92 : vm_M := (RX10, yX10_init, cX10_init, 2, none, vm_k92)
def vm_k93 : List vm_I := [(0, .iload_n 1, 1, 0, 0, 0), (1, .bipush 32, 2, 0, 0, 0), (3, .bipush 126, 2, 0, 0, 0), (5, .invokestatic 111, 3, 1, 126, 3), (8, .ifCond .ne 5, 3, 0, 0, 0), (11, .iconst (-1), 1, 0, 0, 0), (12, .ireturn, 1, 0, 0, 0), (13, .aload_n 0, 1, 0, 0, 0), (14, .getfield 14, 3, 9, 0, 0), (17, .invokevirtual 115, 3, 0, 56, 500), (20, .ifCond .eq 6, 3, 0, 0, 0), (23, .bipush (-3), 2, 0, 0, 0), (25, .ireturn, 1, 0, 0, 0), (26, .aload_n 0, 1, 0, 0, 0), (27, .getfield 14, 3, 9, 0, 0), (30, .iload_n 1, 1, 0, 0, 0), (31, .invokevirtual 101, 3, 0, 58, 501), (34, .aload_n 0, 1, 0, 0, 0), (35, .getfield 14, 3, 9, 0, 0), (38, .invokevirtual 118, 3, 0, 55, 500), (41, .ireturn, 1, 0, 0, 0)]
def vm_m93 : vm_M := (RX10, yX10_write, cX10_write, 2, (some .int), vm_k93)
def vm_k94 : List vm_I := [(0, .aload_n 0, 1, 0, 0, 0), (1, .getfield 14, 3, 9, 0, 0), (4, .invokevirtual 118, 3, 0, 55, 500), (7, .istore_n 1, 1, 0, 0, 0), (8, .aload_n 0, 1, 0, 0, 0), (9, .getfield 14, 3, 9, 0, 0), (12, .invokevirtual 108, 3, 0, 57, 500), (15, .iload_n 1, 1, 0, 0, 0), (16, .ireturn, 1, 0, 0, 0)]
def vm_m94 : vm_M := (RX10, yX10_wipe, cX10_wipe, 2, (some .int), vm_k94)
def vm_k95 : List vm_I := [(0, .aload_n 0, 1, 0, 0, 0), (1, .getfield 57, 3, 9, 7, 0), (4, .invokevirtual 121, 3, 0, 47, 400), (7, .ireturn, 1, 0, 0, 0)]
def vm_m95 : vm_M := (RX10, yX10_fault, cX10_fault, 1, (some .int), vm_k95)
def vm_k96 : List vm_I := [(0, .aload_n 0, 1, 0, 0, 0), (1, .invokevirtual 104, 3, 0, 121, 900), (4, .ifCond .eq 13, 3, 0, 0, 0), (7, .aload_n 0, 1, 0, 0, 0), (8, .getfield 33, 3, 9, 3, 0), (11, .invokevirtual 124, 3, 0, 4, 0), (14, .goto 5, 3, 0, 0, 0), (17, .bipush (-2), 2, 0, 0, 0), (19, .ireturn, 1, 0, 0, 0)]
def vm_m96 : vm_M := (RX10, yX10_lay, cX10_lay, 1, (some .int), vm_k96)
def vm_k97 : List vm_I := [(0, .aload_n 0, 1, 0, 0, 0), (1, .getfield 24, 3, 9, 2, 0), (4, .iload_n 1, 1, 0, 0, 0), (5, .invokevirtual 127, 3, 0, 76, 701), (8, .ifCond .eq 22, 3, 0, 0, 0), (11, .iload_n 2, 1, 0, 0, 0), (12, .invokestatic 131, 3, 1, 125, 1), (15, .ifCond .eq 15, 3, 0, 0, 0), (18, .aload_n 0, 1, 0, 0, 0), (19, .getfield 24, 3, 9, 2, 0), (22, .iload_n 1, 1, 0, 0, 0), (23, .iload_n 2, 1, 0, 0, 0), (24, .invokevirtual 134, 3, 0, 78, 702), (27, .goto 4, 3, 0, 0, 0), (30, .iconst (-1), 1, 0, 0, 0), (31, .ireturn, 1, 0, 0, 0)]
def vm_m97 : vm_M := (RX10, yX10_line, cX10_line, 3, (some .int), vm_k97)
def vm_k98 : List vm_I := [(0, .iload_n 1, 1, 0, 0, 0), (1, .iconst 0, 1, 0, 0, 0), (2, .bipush 99, 2, 0, 0, 0), (4, .invokestatic 111, 3, 1, 126, 3), (7, .ifCond .eq 22, 3, 0, 0, 0), (10, .aload_n 0, 1, 0, 0, 0), (11, .getfield 24, 3, 9, 2, 0), (14, .aload_n 0, 1, 0, 0, 0), (15, .getfield 33, 3, 9, 3, 0), (18, .invokevirtual 138, 3, 0, 5, 0), (21, .iload_n 1, 1, 0, 0, 0), (22, .iadd, 1, 0, 0, 0), (23, .invokevirtual 141, 3, 0, 80, 701), (26, .goto 4, 3, 0, 0, 0), (29, .iconst (-1), 1, 0, 0, 0), (30, .ireturn, 1, 0, 0, 0)]
def vm_m98 : vm_M := (RX10, yX10_rain, cX10_rain, 2, (some .int), vm_k98)
def vm_k99 : List vm_I := [(0, .aload_n 0, 1, 0, 0, 0), (1, .getfield 33, 3, 9, 3, 0), (4, .iload_n 1, 1, 0, 0, 0), (5, .invokevirtual 145, 3, 0, 6, 1), (8, .ifCond .eq 25, 3, 0, 0, 0), (11, .iload_n 2, 1, 0, 0, 0), (12, .iconst 0, 1, 0, 0, 0), (13, .bipush 7, 2, 0, 0, 0), (15, .invokestatic 111, 3, 1, 126, 3), (18, .ifCond .eq 15, 3, 0, 0, 0), (21, .aload_n 0, 1, 0, 0, 0), (22, .getfield 33, 3, 9, 3, 0), (25, .iload_n 1, 1, 0, 0, 0), (26, .iload_n 2, 1, 0, 0, 0), (27, .invokevirtual 148, 3, 0, 7, 2), (30, .goto 4, 3, 0, 0, 0), (33, .iconst (-1), 1, 0, 0, 0), (34, .ireturn, 1, 0, 0, 0)]
def vm_m99 : vm_M := (RX10, yX10_company, cX10_company, 3, (some .int), vm_k99)
def vm_k100 : List vm_I := [(0, .aload_n 0, 1, 0, 0, 0), (1, .getfield 33, 3, 9, 3, 0), (4, .iload_n 1, 1, 0, 0, 0), (5, .invokevirtual 145, 3, 0, 6, 1), (8, .ifCond .eq 10, 3, 0, 0, 0), (11, .iload_n 2, 1, 0, 0, 0), (12, .invokestatic 131, 3, 1, 125, 1), (15, .ifCond .ne 5, 3, 0, 0, 0), (18, .iconst (-1), 1, 0, 0, 0), (19, .ireturn, 1, 0, 0, 0), (20, .aload_n 0, 1, 0, 0, 0), (21, .getfield 33, 3, 9, 3, 0), (24, .iload_n 1, 1, 0, 0, 0), (25, .iload_n 2, 1, 0, 0, 0), (26, .invokevirtual 151, 3, 0, 11, 2), (29, .ifCond .ne 6, 3, 0, 0, 0), (32, .bipush (-2), 2, 0, 0, 0), (34, .ireturn, 1, 0, 0, 0), (35, .aload_n 0, 1, 0, 0, 0), (36, .getfield 45, 3, 9, 5, 0), (39, .aload_n 0, 1, 0, 0, 0), (40, .getfield 33, 3, 9, 3, 0), (43, .invokevirtual 155, 3, 0, 67, 601), (46, .aload_n 0, 1, 0, 0, 0), (47, .getfield 33, 3, 9, 3, 0), (50, .iload_n 1, 1, 0, 0, 0), (51, .iload_n 2, 1, 0, 0, 0), (52, .invokevirtual 159, 3, 0, 12, 2), (55, .aload_n 0, 1, 0, 0, 0), (56, .getfield 33, 3, 9, 3, 0), (59, .iload_n 1, 1, 0, 0, 0), (60, .iconst 1, 1, 0, 0, 0), (61, .invokevirtual 148, 3, 0, 7, 2), (64, .ireturn, 1, 0, 0, 0)]
def vm_m100 : vm_M := (RX10, yX10_put, cX10_put, 3, (some .int), vm_k100)
def vm_k101 : List vm_I := [(0, .iload_n 1, 1, 0, 0, 0), (1, .iconst 1, 1, 0, 0, 0), (2, .bipush 24, 2, 0, 0, 0), (4, .invokestatic 111, 3, 1, 126, 3), (7, .ifCond .ne 5, 3, 0, 0, 0), (10, .iconst (-1), 1, 0, 0, 0), (11, .ireturn, 1, 0, 0, 0), (12, .aload_n 0, 1, 0, 0, 0), (13, .getfield 45, 3, 9, 5, 0), (16, .aload_n 0, 1, 0, 0, 0), (17, .getfield 33, 3, 9, 3, 0), (20, .invokevirtual 155, 3, 0, 67, 601), (23, .iconst 0, 1, 0, 0, 0), (24, .istore_n 2, 1, 0, 0, 0), (25, .iload_n 2, 1, 0, 0, 0), (26, .iload_n 1, 1, 0, 0, 0), (27, .if_icmp .ge 16, 3, 0, 0, 0), (30, .aload_n 0, 1, 0, 0, 0), (31, .getfield 33, 3, 9, 3, 0), (34, .invokevirtual 163, 3, 0, 14, 0), (37, .iinc 2 1, 3, 0, 0, 0), (40, .goto (-15), 3, 0, 0, 0), (43, .aload_n 0, 1, 0, 0, 0), (44, .getfield 33, 3, 9, 3, 0), (47, .invokevirtual 166, 3, 0, 22, 0), (50, .ireturn, 1, 0, 0, 0)]
def vm_m101 : vm_M := (RX10, yX10_pass, cX10_pass, 3, (some .int), vm_k101)
def vm_k102 : List vm_I := [(0, .aload_n 0, 1, 0, 0, 0), (1, .iload_n 1, 1, 0, 0, 0), (2, .iload_n 2, 1, 0, 0, 0), (3, .invokevirtual 169, 3, 0, 123, 902), (6, .ifCond .ne 5, 3, 0, 0, 0), (9, .iconst (-1), 1, 0, 0, 0), (10, .ireturn, 1, 0, 0, 0), (11, .aload_n 0, 1, 0, 0, 0), (12, .getfield 33, 3, 9, 3, 0), (15, .iload_n 1, 1, 0, 0, 0), (16, .iload_n 2, 1, 0, 0, 0), (17, .invokevirtual 172, 3, 0, 15, 2), (20, .ifCond .ne 6, 3, 0, 0, 0), (23, .bipush (-2), 2, 0, 0, 0), (25, .ireturn, 1, 0, 0, 0), (26, .aload_n 0, 1, 0, 0, 0), (27, .getfield 45, 3, 9, 5, 0), (30, .aload_n 0, 1, 0, 0, 0), (31, .getfield 33, 3, 9, 3, 0), (34, .invokevirtual 155, 3, 0, 67, 601), (37, .aload_n 0, 1, 0, 0, 0), (38, .getfield 33, 3, 9, 3, 0), (41, .iload_n 1, 1, 0, 0, 0), (42, .iload_n 2, 1, 0, 0, 0), (43, .invokevirtual 175, 3, 0, 16, 2), (46, .aload_n 0, 1, 0, 0, 0), (47, .getfield 33, 3, 9, 3, 0), (50, .iload_n 1, 1, 0, 0, 0), (51, .iconst 1, 1, 0, 0, 0), (52, .invokevirtual 148, 3, 0, 7, 2), (55, .ireturn, 1, 0, 0, 0)]
def vm_m102 : vm_M := (RX10, yX10_light, cX10_light, 3, (some .int), vm_k102)
def vm_k103 : List vm_I := [(0, .aload_n 0, 1, 0, 0, 0), (1, .iload_n 1, 1, 0, 0, 0), (2, .iload_n 2, 1, 0, 0, 0), (3, .invokevirtual 169, 3, 0, 123, 902), (6, .ifCond .ne 5, 3, 0, 0, 0), (9, .iconst (-1), 1, 0, 0, 0), (10, .ireturn, 1, 0, 0, 0), (11, .aload_n 0, 1, 0, 0, 0), (12, .getfield 33, 3, 9, 3, 0), (15, .iload_n 1, 1, 0, 0, 0), (16, .invokevirtual 178, 3, 0, 10, 1), (19, .ifCond .eq 14, 3, 0, 0, 0), (22, .aload_n 0, 1, 0, 0, 0), (23, .getfield 33, 3, 9, 3, 0), (26, .iload_n 2, 1, 0, 0, 0), (27, .invokevirtual 178, 3, 0, 10, 1), (30, .ifCond .ne 6, 3, 0, 0, 0), (33, .bipush (-2), 2, 0, 0, 0), (35, .ireturn, 1, 0, 0, 0), (36, .aload_n 0, 1, 0, 0, 0), (37, .getfield 45, 3, 9, 5, 0), (40, .aload_n 0, 1, 0, 0, 0), (41, .getfield 33, 3, 9, 3, 0), (44, .invokevirtual 155, 3, 0, 67, 601), (47, .aload_n 0, 1, 0, 0, 0), (48, .getfield 33, 3, 9, 3, 0), (51, .iload_n 1, 1, 0, 0, 0), (52, .iload_n 2, 1, 0, 0, 0), (53, .invokevirtual 181, 3, 0, 17, 2), (56, .aload_n 0, 1, 0, 0, 0), (57, .getfield 33, 3, 9, 3, 0), (60, .iload_n 1, 1, 0, 0, 0), (61, .iconst 1, 1, 0, 0, 0), (62, .invokevirtual 148, 3, 0, 7, 2), (65, .ireturn, 1, 0, 0, 0)]
def vm_m103 : vm_M := (RX10, yX10_join, cX10_join, 3, (some .int), vm_k103)
def vm_k104 : List vm_I := [(0, .aload_n 0, 1, 0, 0, 0), (1, .iload_n 1, 1, 0, 0, 0), (2, .iload_n 2, 1, 0, 0, 0), (3, .invokevirtual 169, 3, 0, 123, 902), (6, .ifCond .eq 10, 3, 0, 0, 0), (9, .iload_n 3, 1, 0, 0, 0), (10, .invokestatic 131, 3, 1, 125, 1), (13, .ifCond .ne 5, 3, 0, 0, 0), (16, .iconst (-1), 1, 0, 0, 0), (17, .ireturn, 1, 0, 0, 0), (18, .aload_n 0, 1, 0, 0, 0), (19, .getfield 33, 3, 9, 3, 0), (22, .iload_n 1, 1, 0, 0, 0), (23, .iload_n 2, 1, 0, 0, 0), (24, .iload_n 3, 1, 0, 0, 0), (25, .invokevirtual 184, 3, 0, 18, 3), (28, .ifCond .ne 6, 3, 0, 0, 0), (31, .bipush (-2), 2, 0, 0, 0), (33, .ireturn, 1, 0, 0, 0), (34, .aload_n 0, 1, 0, 0, 0), (35, .getfield 45, 3, 9, 5, 0), (38, .aload_n 0, 1, 0, 0, 0), (39, .getfield 33, 3, 9, 3, 0), (42, .invokevirtual 155, 3, 0, 67, 601), (45, .aload_n 0, 1, 0, 0, 0), (46, .getfield 33, 3, 9, 3, 0), (49, .iload_n 1, 1, 0, 0, 0), (50, .iload_n 2, 1, 0, 0, 0), (51, .iload_n 3, 1, 0, 0, 0), (52, .invokevirtual 187, 3, 0, 19, 3), (55, .aload_n 0, 1, 0, 0, 0), (56, .getfield 33, 3, 9, 3, 0), (59, .iload_n 2, 1, 0, 0, 0), (60, .iconst 2, 1, 0, 0, 0), (61, .iload_n 3, 1, 0, 0, 0), (62, .iadd, 1, 0, 0, 0), (63, .invokevirtual 148, 3, 0, 7, 2), (66, .ireturn, 1, 0, 0, 0)]
def vm_m104 : vm_M := (RX10, yX10_hand, cX10_hand, 4, (some .int), vm_k104)
def vm_k105 : List vm_I := [(0, .aload_n 0, 1, 0, 0, 0), (1, .getfield 45, 3, 9, 5, 0), (4, .aload_n 0, 1, 0, 0, 0), (5, .getfield 33, 3, 9, 3, 0), (8, .invokevirtual 191, 3, 0, 68, 601), (11, .ifCond .eq 13, 3, 0, 0, 0), (14, .aload_n 0, 1, 0, 0, 0), (15, .getfield 45, 3, 9, 5, 0), (18, .invokevirtual 195, 3, 0, 64, 600), (21, .goto 5, 3, 0, 0, 0), (24, .bipush (-2), 2, 0, 0, 0), (26, .ireturn, 1, 0, 0, 0)]
def vm_m105 : vm_M := (RX10, yX10_undo, cX10_undo, 1, (some .int), vm_k105)
def vm_k106 : List vm_I := [(0, .aload_n 0, 1, 0, 0, 0), (1, .getfield 33, 3, 9, 3, 0), (4, .iload_n 1, 1, 0, 0, 0), (5, .invokevirtual 145, 3, 0, 6, 1), (8, .ifCond .eq 14, 3, 0, 0, 0), (11, .aload_n 0, 1, 0, 0, 0), (12, .getfield 33, 3, 9, 3, 0), (15, .iload_n 1, 1, 0, 0, 0), (16, .invokevirtual 196, 3, 0, 20, 1), (19, .goto 4, 3, 0, 0, 0), (22, .iconst (-1), 1, 0, 0, 0), (23, .ireturn, 1, 0, 0, 0)]
def vm_m106 : vm_M := (RX10, yX10_lasts, cX10_lasts, 2, (some .int), vm_k106)
def vm_k107 : List vm_I := [(0, .aload_n 0, 1, 0, 0, 0), (1, .getfield 33, 3, 9, 3, 0), (4, .iload_n 1, 1, 0, 0, 0), (5, .invokevirtual 145, 3, 0, 6, 1), (8, .ifCond .eq 18, 3, 0, 0, 0), (11, .iload_n 2, 1, 0, 0, 0), (12, .iconst 1, 1, 0, 0, 0), (13, .bipush 6, 2, 0, 0, 0), (15, .invokestatic 111, 3, 1, 126, 3), (18, .ifCond .eq 8, 3, 0, 0, 0), (21, .iload_n 3, 1, 0, 0, 0), (22, .iconst (-1), 1, 0, 0, 0), (23, .if_icmp .ge 5, 3, 0, 0, 0), (26, .iconst (-1), 1, 0, 0, 0), (27, .ireturn, 1, 0, 0, 0), (28, .aload_n 0, 1, 0, 0, 0), (29, .getfield 33, 3, 9, 3, 0), (32, .iload_n 1, 1, 0, 0, 0), (33, .invokevirtual 178, 3, 0, 10, 1), (36, .ifCond .ne 6, 3, 0, 0, 0), (39, .bipush (-2), 2, 0, 0, 0), (41, .ireturn, 1, 0, 0, 0), (42, .aload_n 0, 1, 0, 0, 0), (43, .getfield 64, 3, 9, 8, 0), (46, .aload_n 0, 1, 0, 0, 0), (47, .getfield 33, 3, 9, 3, 0), (50, .iload_n 1, 1, 0, 0, 0), (51, .iload_n 2, 1, 0, 0, 0), (52, .invokevirtual 199, 3, 0, 34, 203), (55, .istore 4, 2, 0, 0, 0), (57, .iload_n 3, 1, 0, 0, 0), (58, .iconst (-1), 1, 0, 0, 0), (59, .if_icmp .eq 10, 3, 0, 0, 0), (62, .iload 4, 2, 0, 0, 0), (64, .bipush (-4), 2, 0, 0, 0), (66, .if_icmp .ne 8, 3, 0, 0, 0), (69, .iload 4, 2, 0, 0, 0), (71, .goto 11, 3, 0, 0, 0), (74, .aload_n 0, 1, 0, 0, 0), (75, .getfield 64, 3, 9, 8, 0), (78, .iload_n 3, 1, 0, 0, 0), (79, .invokevirtual 203, 3, 0, 35, 201), (82, .ireturn, 1, 0, 0, 0)]
def vm_m107 : vm_M := (RX10, yX10_stays, cX10_stays, 5, (some .int), vm_k107)
def vm_k108 : List vm_I := [(0, .aload_n 0, 1, 0, 0, 0), (1, .getfield 33, 3, 9, 3, 0), (4, .iload_n 1, 1, 0, 0, 0), (5, .invokevirtual 145, 3, 0, 6, 1), (8, .ifCond .eq 19, 3, 0, 0, 0), (11, .aload_n 0, 1, 0, 0, 0), (12, .getfield 24, 3, 9, 2, 0), (15, .iload_n 2, 1, 0, 0, 0), (16, .invokevirtual 127, 3, 0, 76, 701), (19, .ifCond .eq 8, 3, 0, 0, 0), (22, .iload_n 3, 1, 0, 0, 0), (23, .iconst (-1), 1, 0, 0, 0), (24, .if_icmp .ge 5, 3, 0, 0, 0), (27, .iconst (-1), 1, 0, 0, 0), (28, .ireturn, 1, 0, 0, 0), (29, .aload_n 0, 1, 0, 0, 0), (30, .getfield 33, 3, 9, 3, 0), (33, .iload_n 1, 1, 0, 0, 0), (34, .invokevirtual 178, 3, 0, 10, 1), (37, .ifCond .ne 6, 3, 0, 0, 0), (40, .bipush (-2), 2, 0, 0, 0), (42, .ireturn, 1, 0, 0, 0), (43, .aload_n 0, 1, 0, 0, 0), (44, .getfield 71, 3, 9, 9, 0), (47, .aload_n 0, 1, 0, 0, 0), (48, .getfield 33, 3, 9, 3, 0), (51, .iload_n 1, 1, 0, 0, 0), (52, .iload_n 2, 1, 0, 0, 0), (53, .invokevirtual 206, 3, 0, 88, 803), (56, .istore 4, 2, 0, 0, 0), (58, .iload_n 3, 1, 0, 0, 0), (59, .iconst (-1), 1, 0, 0, 0), (60, .if_icmp .eq 10, 3, 0, 0, 0), (63, .iload 4, 2, 0, 0, 0), (65, .bipush (-4), 2, 0, 0, 0), (67, .if_icmp .ne 8, 3, 0, 0, 0), (70, .iload 4, 2, 0, 0, 0), (72, .goto 11, 3, 0, 0, 0), (75, .aload_n 0, 1, 0, 0, 0), (76, .getfield 71, 3, 9, 9, 0), (79, .iload_n 3, 1, 0, 0, 0), (80, .invokevirtual 207, 3, 0, 89, 801), (83, .ireturn, 1, 0, 0, 0)]
def vm_m108 : vm_M := (RX10, yX10_tell, cX10_tell, 5, (some .int), vm_k108)
def vm_k109 : List vm_I := [(0, .aload_n 0, 1, 0, 0, 0), (1, .iload_n 1, 1, 0, 0, 0), (2, .iload_n 2, 1, 0, 0, 0), (3, .invokevirtual 169, 3, 0, 123, 902), (6, .ifCond .eq 8, 3, 0, 0, 0), (9, .iload_n 3, 1, 0, 0, 0), (10, .iconst (-1), 1, 0, 0, 0), (11, .if_icmp .ge 5, 3, 0, 0, 0), (14, .iconst (-1), 1, 0, 0, 0), (15, .ireturn, 1, 0, 0, 0), (16, .aload_n 0, 1, 0, 0, 0), (17, .getfield 33, 3, 9, 3, 0), (20, .iload_n 1, 1, 0, 0, 0), (21, .invokevirtual 178, 3, 0, 10, 1), (24, .ifCond .eq 14, 3, 0, 0, 0), (27, .aload_n 0, 1, 0, 0, 0), (28, .getfield 33, 3, 9, 3, 0), (31, .iload_n 2, 1, 0, 0, 0), (32, .invokevirtual 178, 3, 0, 10, 1), (35, .ifCond .ne 6, 3, 0, 0, 0), (38, .bipush (-2), 2, 0, 0, 0), (40, .ireturn, 1, 0, 0, 0), (41, .aload_n 0, 1, 0, 0, 0), (42, .getfield 78, 3, 9, 10, 0), (45, .aload_n 0, 1, 0, 0, 0), (46, .getfield 33, 3, 9, 3, 0), (49, .iload_n 1, 1, 0, 0, 0), (50, .iconst 1, 1, 0, 0, 0), (51, .invokevirtual 148, 3, 0, 7, 2), (54, .aload_n 0, 1, 0, 0, 0), (55, .getfield 33, 3, 9, 3, 0), (58, .iload_n 2, 1, 0, 0, 0), (59, .iconst 1, 1, 0, 0, 0), (60, .invokevirtual 148, 3, 0, 7, 2), (63, .invokevirtual 210, 3, 0, 39, 302), (66, .istore 4, 2, 0, 0, 0), (68, .iload_n 3, 1, 0, 0, 0), (69, .iconst (-1), 1, 0, 0, 0), (70, .if_icmp .eq 10, 3, 0, 0, 0), (73, .iload 4, 2, 0, 0, 0), (75, .bipush (-4), 2, 0, 0, 0), (77, .if_icmp .ne 8, 3, 0, 0, 0), (80, .iload 4, 2, 0, 0, 0), (82, .goto 11, 3, 0, 0, 0), (85, .aload_n 0, 1, 0, 0, 0), (86, .getfield 78, 3, 9, 10, 0), (89, .iload_n 3, 1, 0, 0, 0), (90, .invokevirtual 213, 3, 0, 40, 301), (93, .ireturn, 1, 0, 0, 0)]
def vm_m109 : vm_M := (RX10, yX10_meet, cX10_meet, 5, (some .int), vm_k109)
def vm_k110 : List vm_I := [(0, .aload_n 0, 1, 0, 0, 0), (1, .getfield 33, 3, 9, 3, 0), (4, .iload_n 1, 1, 0, 0, 0), (5, .invokevirtual 145, 3, 0, 6, 1), (8, .ifCond .ne 5, 3, 0, 0, 0), (11, .iconst (-1), 1, 0, 0, 0), (12, .ireturn, 1, 0, 0, 0), (13, .aload_n 0, 1, 0, 0, 0), (14, .getfield 33, 3, 9, 3, 0), (17, .iload_n 1, 1, 0, 0, 0), (18, .invokevirtual 178, 3, 0, 10, 1), (21, .ifCond .eq 22, 3, 0, 0, 0), (24, .aload_n 0, 1, 0, 0, 0), (25, .getfield 24, 3, 9, 2, 0), (28, .aload_n 0, 1, 0, 0, 0), (29, .getfield 33, 3, 9, 3, 0), (32, .iload_n 1, 1, 0, 0, 0), (33, .iconst 1, 1, 0, 0, 0), (34, .invokevirtual 148, 3, 0, 7, 2), (37, .invokevirtual 214, 3, 0, 81, 701), (40, .goto 5, 3, 0, 0, 0), (43, .bipush (-2), 2, 0, 0, 0), (45, .ireturn, 1, 0, 0, 0)]
def vm_m110 : vm_M := (RX10, yX10_can, cX10_can, 2, (some .int), vm_k110)
def vm_k111 : List vm_I := [(0, .aload_n 0, 1, 0, 0, 0), (1, .iload_n 1, 1, 0, 0, 0), (2, .iload_n 2, 1, 0, 0, 0), (3, .invokevirtual 169, 3, 0, 123, 902), (6, .ifCond .eq 13, 3, 0, 0, 0), (9, .iload_n 3, 1, 0, 0, 0), (10, .iconst 1, 1, 0, 0, 0), (11, .bipush 6, 2, 0, 0, 0), (13, .invokestatic 111, 3, 1, 126, 3), (16, .ifCond .ne 5, 3, 0, 0, 0), (19, .iconst (-1), 1, 0, 0, 0), (20, .ireturn, 1, 0, 0, 0), (21, .aload_n 0, 1, 0, 0, 0), (22, .getfield 33, 3, 9, 3, 0), (25, .iload_n 1, 1, 0, 0, 0), (26, .invokevirtual 178, 3, 0, 10, 1), (29, .ifCond .eq 14, 3, 0, 0, 0), (32, .aload_n 0, 1, 0, 0, 0), (33, .getfield 33, 3, 9, 3, 0), (36, .iload_n 2, 1, 0, 0, 0), (37, .invokevirtual 178, 3, 0, 10, 1), (40, .ifCond .ne 6, 3, 0, 0, 0), (43, .bipush (-2), 2, 0, 0, 0), (45, .ireturn, 1, 0, 0, 0), (46, .iconst 0, 1, 0, 0, 0), (47, .istore 4, 2, 0, 0, 0), (49, .iload 4, 2, 0, 0, 0), (51, .iconst 4, 1, 0, 0, 0), (52, .if_icmp .ge 24, 3, 0, 0, 0), (55, .aload_n 0, 1, 0, 0, 0), (56, .iload_n 1, 1, 0, 0, 0), (57, .iload_n 2, 1, 0, 0, 0), (58, .iload 4, 2, 0, 0, 0), (60, .iload_n 3, 1, 0, 0, 0), (61, .invokevirtual 217, 3, 0, 122, 904), (64, .ifCond .eq 6, 3, 0, 0, 0), (67, .iload 4, 2, 0, 0, 0), (69, .ireturn, 1, 0, 0, 0), (70, .iinc 4 1, 3, 0, 0, 0), (73, .goto (-24), 3, 0, 0, 0), (76, .bipush (-4), 2, 0, 0, 0), (78, .ireturn, 1, 0, 0, 0)]
def vm_m111 : vm_M := (RX10, yX10_give, cX10_give, 5, (some .int), vm_k111)
def vm_k112 : List vm_I := [(0, .iload_n 1, 1, 0, 0, 0), (1, .invokestatic 131, 3, 1, 125, 1), (4, .ifCond .ne 5, 3, 0, 0, 0), (7, .iconst (-1), 1, 0, 0, 0), (8, .ireturn, 1, 0, 0, 0), (9, .aload_n 0, 1, 0, 0, 0), (10, .getfield 18, 3, 9, 1, 0), (13, .invokevirtual 115, 3, 0, 56, 500), (16, .ifCond .eq 6, 3, 0, 0, 0), (19, .bipush (-3), 2, 0, 0, 0), (21, .ireturn, 1, 0, 0, 0), (22, .aload_n 0, 1, 0, 0, 0), (23, .getfield 18, 3, 9, 1, 0), (26, .iload_n 1, 1, 0, 0, 0), (27, .invokevirtual 101, 3, 0, 58, 501), (30, .aload_n 0, 1, 0, 0, 0), (31, .getfield 18, 3, 9, 1, 0), (34, .invokevirtual 118, 3, 0, 55, 500), (37, .ireturn, 1, 0, 0, 0)]
def vm_m112 : vm_M := (RX10, yX10_see, cX10_see, 2, (some .int), vm_k112)
def vm_k113 : List vm_I := [(0, .aload_n 0, 1, 0, 0, 0), (1, .getfield 18, 3, 9, 1, 0), (4, .invokevirtual 118, 3, 0, 55, 500), (7, .istore_n 1, 1, 0, 0, 0), (8, .aload_n 0, 1, 0, 0, 0), (9, .getfield 18, 3, 9, 1, 0), (12, .invokevirtual 108, 3, 0, 57, 500), (15, .iload_n 1, 1, 0, 0, 0), (16, .ireturn, 1, 0, 0, 0)]
def vm_m113 : vm_M := (RX10, yX10_forget, cX10_forget, 2, (some .int), vm_k113)
def vm_k114 : List vm_I := [(0, .aload_n 0, 1, 0, 0, 0), (1, .getfield 33, 3, 9, 3, 0), (4, .iload_n 1, 1, 0, 0, 0), (5, .invokevirtual 145, 3, 0, 6, 1), (8, .ifCond .ne 5, 3, 0, 0, 0), (11, .iconst (-1), 1, 0, 0, 0), (12, .ireturn, 1, 0, 0, 0), (13, .aload_n 0, 1, 0, 0, 0), (14, .getfield 33, 3, 9, 3, 0), (17, .iload_n 1, 1, 0, 0, 0), (18, .invokevirtual 178, 3, 0, 10, 1), (21, .ifCond .eq 26, 3, 0, 0, 0), (24, .aload_n 0, 1, 0, 0, 0), (25, .getfield 24, 3, 9, 2, 0), (28, .aload_n 0, 1, 0, 0, 0), (29, .getfield 18, 3, 9, 1, 0), (32, .aload_n 0, 1, 0, 0, 0), (33, .getfield 33, 3, 9, 3, 0), (36, .iload_n 1, 1, 0, 0, 0), (37, .iconst 1, 1, 0, 0, 0), (38, .invokevirtual 148, 3, 0, 7, 2), (41, .invokevirtual 221, 3, 0, 83, 702), (44, .goto 5, 3, 0, 0, 0), (47, .bipush (-2), 2, 0, 0, 0), (49, .ireturn, 1, 0, 0, 0)]
def vm_m114 : vm_M := (RX10, yX10_from, cX10_from, 2, (some .int), vm_k114)
def vm_k115 : List vm_I := [(0, .aload_n 0, 1, 0, 0, 0), (1, .getfield 33, 3, 9, 3, 0), (4, .iload_n 1, 1, 0, 0, 0), (5, .invokevirtual 145, 3, 0, 6, 1), (8, .ifCond .eq 24, 3, 0, 0, 0), (11, .aload_n 0, 1, 0, 0, 0), (12, .getfield 24, 3, 9, 2, 0), (15, .iload_n 2, 1, 0, 0, 0), (16, .invokevirtual 127, 3, 0, 76, 701), (19, .ifCond .eq 13, 3, 0, 0, 0), (22, .iload_n 3, 1, 0, 0, 0), (23, .iconst 0, 1, 0, 0, 0), (24, .bipush 8, 2, 0, 0, 0), (26, .invokestatic 111, 3, 1, 126, 3), (29, .ifCond .ne 5, 3, 0, 0, 0), (32, .iconst (-1), 1, 0, 0, 0), (33, .ireturn, 1, 0, 0, 0), (34, .aload_n 0, 1, 0, 0, 0), (35, .getfield 33, 3, 9, 3, 0), (38, .iload_n 1, 1, 0, 0, 0), (39, .invokevirtual 178, 3, 0, 10, 1), (42, .ifCond .eq 24, 3, 0, 0, 0), (45, .aload_n 0, 1, 0, 0, 0), (46, .getfield 24, 3, 9, 2, 0), (49, .iload_n 2, 1, 0, 0, 0), (50, .aload_n 0, 1, 0, 0, 0), (51, .getfield 33, 3, 9, 3, 0), (54, .iload_n 1, 1, 0, 0, 0), (55, .iconst 1, 1, 0, 0, 0), (56, .invokevirtual 148, 3, 0, 7, 2), (59, .iload_n 3, 1, 0, 0, 0), (60, .invokevirtual 225, 3, 0, 85, 703), (63, .goto 5, 3, 0, 0, 0), (66, .bipush (-2), 2, 0, 0, 0), (68, .ireturn, 1, 0, 0, 0)]
def vm_m115 : vm_M := (RX10, yX10_rows, cX10_rows, 4, (some .int), vm_k115)
def vm_k116 : List vm_I := [(0, .aload_n 0, 1, 0, 0, 0), (1, .getfield 33, 3, 9, 3, 0), (4, .iload_n 1, 1, 0, 0, 0), (5, .invokevirtual 145, 3, 0, 6, 1), (8, .ifCond .eq 33, 3, 0, 0, 0), (11, .iload_n 2, 1, 0, 0, 0), (12, .iconst 0, 1, 0, 0, 0), (13, .bipush 8, 2, 0, 0, 0), (15, .invokestatic 111, 3, 1, 126, 3), (18, .ifCond .eq 23, 3, 0, 0, 0), (21, .iload_n 3, 1, 0, 0, 0), (22, .iconst 0, 1, 0, 0, 0), (23, .bipush 10, 2, 0, 0, 0), (25, .invokestatic 111, 3, 1, 126, 3), (28, .ifCond .eq 13, 3, 0, 0, 0), (31, .iload 4, 2, 0, 0, 0), (33, .iconst 0, 1, 0, 0, 0), (34, .iconst 1, 1, 0, 0, 0), (35, .invokestatic 111, 3, 1, 126, 3), (38, .ifCond .ne 5, 3, 0, 0, 0), (41, .iconst (-1), 1, 0, 0, 0), (42, .ireturn, 1, 0, 0, 0), (43, .aload_n 0, 1, 0, 0, 0), (44, .getfield 85, 3, 9, 11, 0), (47, .aload_n 0, 1, 0, 0, 0), (48, .getfield 33, 3, 9, 3, 0), (51, .iload_n 1, 1, 0, 0, 0), (52, .iload_n 2, 1, 0, 0, 0), (53, .iload_n 3, 1, 0, 0, 0), (54, .iload 4, 2, 0, 0, 0), (56, .invokevirtual 229, 3, 0, 26, 105), (59, .ireturn, 1, 0, 0, 0)]
def vm_m116 : vm_M := (RX10, yX10_rains, cX10_rains, 5, (some .int), vm_k116)
def vm_k117 : List vm_I := [(0, .iload_n 1, 1, 0, 0, 0), (1, .iconst 0, 1, 0, 0, 0), (2, .sipush 9999, 3, 0, 0, 0), (5, .invokestatic 111, 3, 1, 126, 3), (8, .ifCond .eq 22, 3, 0, 0, 0), (11, .iload_n 2, 1, 0, 0, 0), (12, .iconst 1, 1, 0, 0, 0), (13, .bipush 60, 2, 0, 0, 0), (15, .invokestatic 111, 3, 1, 126, 3), (18, .ifCond .eq 12, 3, 0, 0, 0), (21, .iload_n 3, 1, 0, 0, 0), (22, .iconst 0, 1, 0, 0, 0), (23, .iconst 1, 1, 0, 0, 0), (24, .invokestatic 111, 3, 1, 126, 3), (27, .ifCond .ne 5, 3, 0, 0, 0), (30, .iconst (-1), 1, 0, 0, 0), (31, .ireturn, 1, 0, 0, 0), (32, .aload_n 0, 1, 0, 0, 0), (33, .getfield 37, 3, 9, 4, 0), (36, .aload_n 0, 1, 0, 0, 0), (37, .getfield 33, 3, 9, 3, 0), (40, .invokevirtual 233, 3, 0, 2, 1), (43, .iconst 0, 1, 0, 0, 0), (44, .istore 4, 2, 0, 0, 0), (46, .iload 4, 2, 0, 0, 0), (48, .iload_n 2, 1, 0, 0, 0), (49, .if_icmp .ge 22, 3, 0, 0, 0), (52, .aload_n 0, 1, 0, 0, 0), (53, .getfield 37, 3, 9, 4, 0), (56, .iload_n 1, 1, 0, 0, 0), (57, .iload 4, 2, 0, 0, 0), (59, .invokestatic 236, 3, 1, 124, 2), (62, .invokevirtual 239, 3, 0, 21, 1), (65, .iinc 4 1, 3, 0, 0, 0), (68, .goto (-22), 3, 0, 0, 0), (71, .iload_n 3, 1, 0, 0, 0), (72, .ifCond .ne 13, 3, 0, 0, 0), (75, .aload_n 0, 1, 0, 0, 0), (76, .getfield 37, 3, 9, 4, 0), (79, .invokevirtual 166, 3, 0, 22, 0), (82, .goto 18, 3, 0, 0, 0), (85, .aload_n 0, 1, 0, 0, 0), (86, .getfield 37, 3, 9, 4, 0), (89, .invokevirtual 242, 3, 0, 24, 0), (92, .aload_n 0, 1, 0, 0, 0), (93, .getfield 33, 3, 9, 3, 0), (96, .invokevirtual 242, 3, 0, 24, 0), (99, .isub, 1, 0, 0, 0), (100, .ireturn, 1, 0, 0, 0)]
def vm_m117 : vm_M := (RX10, yX10_winter, cX10_winter, 5, (some .int), vm_k117)
def vm_k118 : List vm_I := [(0, .aload_n 0, 1, 0, 0, 0), (1, .getfield 49, 3, 9, 6, 0), (4, .invokevirtual 245, 3, 0, 65, 600), (7, .ifCond .eq 6, 3, 0, 0, 0), (10, .bipush (-3), 2, 0, 0, 0), (12, .ireturn, 1, 0, 0, 0), (13, .aload_n 0, 1, 0, 0, 0), (14, .getfield 49, 3, 9, 6, 0), (17, .aload_n 0, 1, 0, 0, 0), (18, .getfield 33, 3, 9, 3, 0), (21, .invokevirtual 155, 3, 0, 67, 601), (24, .aload_n 0, 1, 0, 0, 0), (25, .getfield 49, 3, 9, 6, 0), (28, .invokevirtual 195, 3, 0, 64, 600), (31, .ireturn, 1, 0, 0, 0)]
def vm_m118 : vm_M := (RX10, yX10_keep, cX10_keep, 1, (some .int), vm_k118)
def vm_k119 : List vm_I := [(0, .aload_n 0, 1, 0, 0, 0), (1, .getfield 49, 3, 9, 6, 0), (4, .aload_n 0, 1, 0, 0, 0), (5, .getfield 33, 3, 9, 3, 0), (8, .invokevirtual 191, 3, 0, 68, 601), (11, .ifCond .ne 6, 3, 0, 0, 0), (14, .bipush (-2), 2, 0, 0, 0), (16, .ireturn, 1, 0, 0, 0), (17, .aload_n 0, 1, 0, 0, 0), (18, .getfield 45, 3, 9, 5, 0), (21, .invokevirtual 246, 3, 0, 66, 600), (24, .aload_n 0, 1, 0, 0, 0), (25, .getfield 49, 3, 9, 6, 0), (28, .invokevirtual 195, 3, 0, 64, 600), (31, .ireturn, 1, 0, 0, 0)]
def vm_m119 : vm_M := (RX10, yX10_back, cX10_back, 1, (some .int), vm_k119)
def vm_k120 : List vm_I := [(0, .iload_n 1, 1, 0, 0, 0), (1, .tableswitch 135 0 9 #[55, 63, 71, 79, 87, 95, 103, 111, 119, 127], 55, 0, 0, 0), (56, .aload_n 0, 1, 0, 0, 0), (57, .getfield 24, 3, 9, 2, 0), (60, .invokevirtual 247, 3, 0, 75, 700), (63, .ireturn, 1, 0, 0, 0), (64, .aload_n 0, 1, 0, 0, 0), (65, .getfield 33, 3, 9, 3, 0), (68, .invokevirtual 124, 3, 0, 4, 0), (71, .ireturn, 1, 0, 0, 0), (72, .aload_n 0, 1, 0, 0, 0), (73, .getfield 33, 3, 9, 3, 0), (76, .invokevirtual 138, 3, 0, 5, 0), (79, .ireturn, 1, 0, 0, 0), (80, .aload_n 0, 1, 0, 0, 0), (81, .getfield 33, 3, 9, 3, 0), (84, .invokevirtual 166, 3, 0, 22, 0), (87, .ireturn, 1, 0, 0, 0), (88, .aload_n 0, 1, 0, 0, 0), (89, .getfield 33, 3, 9, 3, 0), (92, .invokevirtual 250, 3, 0, 23, 0), (95, .ireturn, 1, 0, 0, 0), (96, .aload_n 0, 1, 0, 0, 0), (97, .getfield 33, 3, 9, 3, 0), (100, .invokevirtual 242, 3, 0, 24, 0), (103, .ireturn, 1, 0, 0, 0), (104, .aload_n 0, 1, 0, 0, 0), (105, .getfield 18, 3, 9, 1, 0), (108, .invokevirtual 118, 3, 0, 55, 500), (111, .ireturn, 1, 0, 0, 0), (112, .aload_n 0, 1, 0, 0, 0), (113, .getfield 45, 3, 9, 5, 0), (116, .invokevirtual 195, 3, 0, 64, 600), (119, .ireturn, 1, 0, 0, 0), (120, .aload_n 0, 1, 0, 0, 0), (121, .getfield 49, 3, 9, 6, 0), (124, .invokevirtual 195, 3, 0, 64, 600), (127, .ireturn, 1, 0, 0, 0), (128, .aload_n 0, 1, 0, 0, 0), (129, .getfield 14, 3, 9, 0, 0), (132, .invokevirtual 118, 3, 0, 55, 500), (135, .ireturn, 1, 0, 0, 0), (136, .iconst (-1), 1, 0, 0, 0), (137, .ireturn, 1, 0, 0, 0)]
def vm_m120 : vm_M := (RX10, yX10_count, cX10_count, 2, (some .int), vm_k120)
def vm_k121 : List vm_I := [(0, .aload_n 0, 1, 0, 0, 0), (1, .getfield 57, 3, 9, 7, 0), (4, .invokevirtual 121, 3, 0, 47, 400), (7, .bipush (-4), 2, 0, 0, 0), (9, .if_icmp .ne 13, 3, 0, 0, 0), (12, .aload_n 0, 1, 0, 0, 0), (13, .getfield 57, 3, 9, 7, 0), (16, .invokevirtual 253, 3, 0, 46, 400), (19, .ifCond .ne 5, 3, 0, 0, 0), (22, .iconst 0, 1, 0, 0, 0), (23, .ireturn, 1, 0, 0, 0), (24, .aload_n 0, 1, 0, 0, 0), (25, .getfield 24, 3, 9, 2, 0), (28, .aload_n 0, 1, 0, 0, 0), (29, .getfield 57, 3, 9, 7, 0), (32, .invokevirtual 256, 3, 0, 44, 400), (35, .invokevirtual 259, 3, 0, 72, 701), (38, .aload_n 0, 1, 0, 0, 0), (39, .getfield 33, 3, 9, 3, 0), (42, .aload_n 0, 1, 0, 0, 0), (43, .getfield 57, 3, 9, 7, 0), (46, .invokevirtual 261, 3, 0, 45, 400), (49, .invokevirtual 233, 3, 0, 2, 1), (52, .aload_n 0, 1, 0, 0, 0), (53, .getfield 18, 3, 9, 1, 0), (56, .invokevirtual 108, 3, 0, 57, 500), (59, .aload_n 0, 1, 0, 0, 0), (60, .getfield 45, 3, 9, 5, 0), (63, .invokevirtual 246, 3, 0, 66, 600), (66, .aload_n 0, 1, 0, 0, 0), (67, .getfield 49, 3, 9, 6, 0), (70, .invokevirtual 246, 3, 0, 66, 600), (73, .iconst 1, 1, 0, 0, 0), (74, .ireturn, 1, 0, 0, 0)]
def vm_m121 : vm_M := (RX10, yX10_layText, cX10_layText, 1, (some .boolean), vm_k121)
def vm_k122 : List vm_I := [(0, .aload_n 0, 1, 0, 0, 0), (1, .getfield 33, 3, 9, 3, 0), (4, .iload_n 1, 1, 0, 0, 0), (5, .iload_n 2, 1, 0, 0, 0), (6, .iload_n 3, 1, 0, 0, 0), (7, .invokevirtual 184, 3, 0, 18, 3), (10, .ifCond .ne 5, 3, 0, 0, 0), (13, .iconst 0, 1, 0, 0, 0), (14, .ireturn, 1, 0, 0, 0), (15, .aload_n 0, 1, 0, 0, 0), (16, .getfield 37, 3, 9, 4, 0), (19, .aload_n 0, 1, 0, 0, 0), (20, .getfield 33, 3, 9, 3, 0), (23, .invokevirtual 233, 3, 0, 2, 1), (26, .aload_n 0, 1, 0, 0, 0), (27, .getfield 37, 3, 9, 4, 0), (30, .iload_n 1, 1, 0, 0, 0), (31, .iload_n 2, 1, 0, 0, 0), (32, .iload_n 3, 1, 0, 0, 0), (33, .invokevirtual 187, 3, 0, 19, 3), (36, .aload_n 0, 1, 0, 0, 0), (37, .getfield 64, 3, 9, 8, 0), (40, .aload_n 0, 1, 0, 0, 0), (41, .getfield 37, 3, 9, 4, 0), (44, .iload_n 1, 1, 0, 0, 0), (45, .iload 4, 2, 0, 0, 0), (47, .invokevirtual 199, 3, 0, 34, 203), (50, .bipush (-4), 2, 0, 0, 0), (52, .if_icmp .eq 26, 3, 0, 0, 0), (55, .aload_n 0, 1, 0, 0, 0), (56, .getfield 64, 3, 9, 8, 0), (59, .aload_n 0, 1, 0, 0, 0), (60, .getfield 37, 3, 9, 4, 0), (63, .iload_n 2, 1, 0, 0, 0), (64, .iload 4, 2, 0, 0, 0), (66, .invokevirtual 199, 3, 0, 34, 203), (69, .bipush (-4), 2, 0, 0, 0), (71, .if_icmp .eq 7, 3, 0, 0, 0), (74, .iconst 1, 1, 0, 0, 0), (75, .goto 4, 3, 0, 0, 0), (78, .iconst 0, 1, 0, 0, 0), (79, .ireturn, 1, 0, 0, 0)]
def vm_m122 : vm_M := (RX10, yX10_wouldHelp, cX10_wouldHelp, 5, (some .boolean), vm_k122)
def vm_k123 : List vm_I := [(0, .aload_n 0, 1, 0, 0, 0), (1, .getfield 33, 3, 9, 3, 0), (4, .iload_n 1, 1, 0, 0, 0), (5, .invokevirtual 145, 3, 0, 6, 1), (8, .ifCond .eq 23, 3, 0, 0, 0), (11, .aload_n 0, 1, 0, 0, 0), (12, .getfield 33, 3, 9, 3, 0), (15, .iload_n 2, 1, 0, 0, 0), (16, .invokevirtual 145, 3, 0, 6, 1), (19, .ifCond .eq 12, 3, 0, 0, 0), (22, .iload_n 1, 1, 0, 0, 0), (23, .iload_n 2, 1, 0, 0, 0), (24, .if_icmp .eq 7, 3, 0, 0, 0), (27, .iconst 1, 1, 0, 0, 0), (28, .goto 4, 3, 0, 0, 0), (31, .iconst 0, 1, 0, 0, 0), (32, .ireturn, 1, 0, 0, 0)]
def vm_m123 : vm_M := (RX10, yX10_areTwo, cX10_areTwo, 3, (some .boolean), vm_k123)
def vm_k124 : List vm_I := [(0, .ldc2_w 264, 3, 0, 0, 0), (3, .iload_n 0, 1, 0, 0, 0), (4, .i2l, 1, 0, 0, 0), (5, .lmul, 1, 0, 0, 0), (6, .ldc2_w 266, 3, 1, 0, 0), (9, .iload_n 1, 1, 0, 0, 0), (10, .i2l, 1, 0, 0, 0), (11, .lmul, 1, 0, 0, 0), (12, .ladd, 1, 0, 0, 0), (13, .lconst 1, 1, 0, 0, 0), (14, .ladd, 1, 0, 0, 0), (15, .lstore_n 2, 1, 0, 0, 0), (16, .lload_n 2, 1, 0, 0, 0), (17, .lload_n 2, 1, 0, 0, 0), (18, .lmul, 1, 0, 0, 0), (19, .ldc2_w 268, 3, 2, 0, 0), (22, .lrem, 1, 0, 0, 0), (23, .l2i, 1, 0, 0, 0), (24, .ireturn, 1, 0, 0, 0)]
def vm_m124 : vm_M := (RX10, yX10_draw, cX10_draw, 4, (some .int), vm_k124)
def vm_k125 : List vm_I := [(0, .iload_n 0, 1, 0, 0, 0), (1, .ifCond .lt 12, 3, 0, 0, 0), (4, .iload_n 0, 1, 0, 0, 0), (5, .iconst 4, 1, 0, 0, 0), (6, .if_icmp .ge 7, 3, 0, 0, 0), (9, .iconst 1, 1, 0, 0, 0), (10, .goto 4, 3, 0, 0, 0), (13, .iconst 0, 1, 0, 0, 0), (14, .ireturn, 1, 0, 0, 0)]
def vm_m125 : vm_M := (RX10, yX10_isWood, cX10_isWood, 1, (some .boolean), vm_k125)
def vm_k126 : List vm_I := [(0, .iload_n 0, 1, 0, 0, 0), (1, .iload_n 1, 1, 0, 0, 0), (2, .if_icmp .lt 12, 3, 0, 0, 0), (5, .iload_n 0, 1, 0, 0, 0), (6, .iload_n 2, 1, 0, 0, 0), (7, .if_icmp .gt 7, 3, 0, 0, 0), (10, .iconst 1, 1, 0, 0, 0), (11, .goto 4, 3, 0, 0, 0), (14, .iconst 0, 1, 0, 0, 0), (15, .ireturn, 1, 0, 0, 0)]
def vm_m126 : vm_M := (RX10, yX10_within, cX10_within, 3, (some .boolean), vm_k126)
def vm_k127 : List vm_I := [(0, .aload_n 0, 1, 0, 0, 0), (1, .invokespecial 1, 3, 5, 0, 0), (4, .aload_n 0, 1, 0, 0, 0), (5, .bipush 71, 2, 0, 0, 0), (7, .newarray .int, 2, 0, 0, 0), (9, .putfield 7, 3, 10, 0, 0), (12, .aload_n 0, 1, 0, 0, 0), (13, .bipush 71, 2, 0, 0, 0), (15, .newarray .int, 2, 0, 0, 0), (17, .putfield 13, 3, 10, 1, 0), (20, .aload_n 0, 1, 0, 0, 0), (21, .bipush 33, 2, 0, 0, 0), (23, .newarray .int, 2, 0, 0, 0), (25, .putfield 16, 3, 10, 2, 0), (28, .aload_n 0, 1, 0, 0, 0), (29, .bipush 33, 2, 0, 0, 0), (31, .newarray .int, 2, 0, 0, 0), (33, .putfield 19, 3, 10, 3, 0), (36, .aload_n 0, 1, 0, 0, 0), (37, .sipush 264, 3, 0, 0, 0), (40, .newarray .int, 2, 0, 0, 0), (42, .putfield 22, 3, 10, 4, 0), (45, .aload_n 0, 1, 0, 0, 0), (46, .bipush 66, 2, 0, 0, 0), (48, .newarray .int, 2, 0, 0, 0), (50, .putfield 25, 3, 10, 6, 0), (53, .aload_n 0, 1, 0, 0, 0), (54, .bipush 6, 2, 0, 0, 0), (56, .newarray .int, 2, 0, 0, 0), (58, .putfield 28, 3, 10, 8, 0), (61, .aload_n 0, 1, 0, 0, 0), (62, .sipush 200, 3, 0, 0, 0), (65, .newarray .int, 2, 0, 0, 0), (67, .putfield 31, 3, 10, 10, 0), (70, .aload_n 0, 1, 0, 0, 0), (71, .bipush 6, 2, 0, 0, 0), (73, .newarray .int, 2, 0, 0, 0), (75, .putfield 34, 3, 10, 14, 0), (78, .aload_n 0, 1, 0, 0, 0), (79, .bipush 6, 2, 0, 0, 0), (81, .newarray .int, 2, 0, 0, 0), (83, .putfield 37, 3, 10, 15, 0), (86, .aload_n 0, 1, 0, 0, 0), (87, .iconst 4, 1, 0, 0, 0), (88, .newarray .int, 2, 0, 0, 0), (90, .putfield 40, 3, 10, 16, 0), (93, .aload_n 0, 1, 0, 0, 0), (94, .bipush 81, 2, 0, 0, 0), (96, .newarray .int, 2, 0, 0, 0), (98, .putfield 43, 3, 10, 17, 0), (101, .aload_n 0, 1, 0, 0, 0), (102, .bipush 81, 2, 0, 0, 0), (104, .newarray .int, 2, 0, 0, 0), (106, .putfield 46, 3, 10, 18, 0), (109, .aload_n 0, 1, 0, 0, 0), (110, .bipush 81, 2, 0, 0, 0), (112, .newarray .int, 2, 0, 0, 0), (114, .putfield 49, 3, 10, 19, 0), (117, .aload_n 0, 1, 0, 0, 0), (118, .bipush 81, 2, 0, 0, 0), (120, .newarray .int, 2, 0, 0, 0), (122, .putfield 52, 3, 10, 20, 0), (125, .aload_n 0, 1, 0, 0, 0), (126, .bipush 9, 2, 0, 0, 0), (128, .newarray .int, 2, 0, 0, 0), (130, .putfield 55, 3, 10, 21, 0), (133, .aload_n 0, 1, 0, 0, 0), (134, .bipush 9, 2, 0, 0, 0), (136, .newarray .int, 2, 0, 0, 0), (138, .putfield 58, 3, 10, 22, 0), (141, .aload_n 0, 1, 0, 0, 0), (142, .getfield 7, 3, 10, 0, 0), (145, .sipush 1203, 3, 0, 0, 0), (148, .invokestatic 61, 3, 1, 131, 2), (151, .aload_n 0, 1, 0, 0, 0), (152, .getfield 7, 3, 10, 0, 0), (155, .sipush 2194, 3, 0, 0, 0), (158, .invokestatic 61, 3, 1, 131, 2), (161, .aload_n 0, 1, 0, 0, 0), (162, .getfield 7, 3, 10, 0, 0), (165, .sipush 4330, 3, 0, 0, 0), (168, .invokestatic 61, 3, 1, 131, 2), (171, .aload_n 0, 1, 0, 0, 0), (172, .getfield 7, 3, 10, 0, 0), (175, .sipush 952, 3, 0, 0, 0), (178, .invokestatic 61, 3, 1, 131, 2), (181, .aload_n 0, 1, 0, 0, 0), (182, .getfield 7, 3, 10, 0, 0), (185, .sipush 5149, 3, 0, 0, 0), (188, .invokestatic 61, 3, 1, 131, 2), (191, .aload_n 0, 1, 0, 0, 0), (192, .getfield 7, 3, 10, 0, 0), (195, .sipush 9995, 3, 0, 0, 0), (198, .invokestatic 61, 3, 1, 131, 2), (201, .aload_n 0, 1, 0, 0, 0), (202, .getfield 7, 3, 10, 0, 0), (205, .iconst 1, 1, 0, 0, 0), (206, .iconst 4, 1, 0, 0, 0), (207, .iastore, 1, 0, 0, 0), (208, .aload_n 0, 1, 0, 0, 0), (209, .getfield 7, 3, 10, 0, 0), (212, .bipush 40, 2, 0, 0, 0), (214, .iconst 1, 1, 0, 0, 0), (215, .iastore, 1, 0, 0, 0), (216, .aload_n 0, 1, 0, 0, 0), (217, .getfield 7, 3, 10, 0, 0), (220, .bipush 42, 2, 0, 0, 0), (222, .iconst 2, 1, 0, 0, 0), (223, .iastore, 1, 0, 0, 0), (224, .aload_n 0, 1, 0, 0, 0), (225, .getfield 7, 3, 10, 0, 0), (228, .iconst 0, 1, 0, 0, 0), (229, .bipush 9, 2, 0, 0, 0), (231, .sipush 3212, 3, 0, 0, 0), (234, .invokestatic 65, 3, 1, 132, 4), (237, .aload_n 0, 1, 0, 0, 0), (238, .getfield 7, 3, 10, 0, 0), (241, .iconst 2, 1, 0, 0, 0), (242, .iconst 5, 1, 0, 0, 0), (243, .sipush 1420, 3, 0, 0, 0), (246, .invokestatic 65, 3, 1, 132, 4), (249, .aload_n 0, 1, 0, 0, 0), (250, .getfield 7, 3, 10, 0, 0), (253, .iconst 0, 1, 0, 0, 0), (254, .bipush 12, 2, 0, 0, 0), (256, .bipush 33, 2, 0, 0, 0), (258, .invokestatic 65, 3, 1, 132, 4), (261, .aload_n 0, 1, 0, 0, 0), (262, .invokevirtual 69, 3, 0, 133, 1000), (265, .return_, 1, 0, 0, 0)]
def vm_m127 : vm_M := (RX11, yX11_init, cX11_init, 1, none, vm_k127)
def vm_k128 : List vm_I := [(0, .lload_n 0, 1, 0, 0, 0), (1, .lload_n 2, 1, 0, 0, 0), (2, .lcmp, 1, 0, 0, 0), (3, .ifCond .lt 14, 3, 0, 0, 0), (6, .lload_n 0, 1, 0, 0, 0), (7, .lload 4, 2, 0, 0, 0), (9, .lcmp, 1, 0, 0, 0), (10, .ifCond .gt 7, 3, 0, 0, 0), (13, .iconst 1, 1, 0, 0, 0), (14, .goto 4, 3, 0, 0, 0), (17, .iconst 0, 1, 0, 0, 0), (18, .ireturn, 1, 0, 0, 0)]
def vm_m128 : vm_M := (RX11, yX11_in, cX11_in, 6, (some .boolean), vm_k128)
def vm_k129 : List vm_I := [(0, .iload_n 0, 1, 0, 0, 0), (1, .iload_n 1, 1, 0, 0, 0), (2, .ishr, 1, 0, 0, 0), (3, .iconst 1, 1, 0, 0, 0), (4, .iand, 1, 0, 0, 0), (5, .iconst 1, 1, 0, 0, 0), (6, .if_icmp .ne 7, 3, 0, 0, 0), (9, .iconst 1, 1, 0, 0, 0), (10, .goto 4, 3, 0, 0, 0), (13, .iconst 0, 1, 0, 0, 0), (14, .ireturn, 1, 0, 0, 0)]
def vm_m129 : vm_M := (RX11, yX11_has, cX11_has, 2, (some .boolean), vm_k129)
def vm_k130 : List vm_I := [(0, .iconst 0, 1, 0, 0, 0), (1, .istore 5, 2, 0, 0, 0), (3, .iload 5, 2, 0, 0, 0), (5, .iload 4, 2, 0, 0, 0), (7, .if_icmp .ge 21, 3, 0, 0, 0), (10, .aload_n 2, 1, 0, 0, 0), (11, .iload_n 3, 1, 0, 0, 0), (12, .iload 5, 2, 0, 0, 0), (14, .iadd, 1, 0, 0, 0), (15, .aload_n 0, 1, 0, 0, 0), (16, .iload_n 1, 1, 0, 0, 0), (17, .iload 5, 2, 0, 0, 0), (19, .iadd, 1, 0, 0, 0), (20, .iaload, 1, 0, 0, 0), (21, .iastore, 1, 0, 0, 0), (22, .iinc 5 1, 3, 0, 0, 0), (25, .goto (-22), 3, 0, 0, 0), (28, .return_, 1, 0, 0, 0)]
def vm_m130 : vm_M := (RX11, yX11_copies, cX11_copies, 6, none, vm_k130)
def vm_k131 : List vm_I := [(0, .iload_n 1, 1, 0, 0, 0), (1, .istore_n 2, 1, 0, 0, 0), (2, .iconst 3, 1, 0, 0, 0), (3, .istore_n 3, 1, 0, 0, 0), (4, .iload_n 3, 1, 0, 0, 0), (5, .ifCond .lt 29, 3, 0, 0, 0), (8, .aload_n 0, 1, 0, 0, 0), (9, .iconst 3, 1, 0, 0, 0), (10, .iconst 4, 1, 0, 0, 0), (11, .aload_n 0, 1, 0, 0, 0), (12, .iconst 0, 1, 0, 0, 0), (13, .iaload, 1, 0, 0, 0), (14, .imul, 1, 0, 0, 0), (15, .iadd, 1, 0, 0, 0), (16, .iload_n 3, 1, 0, 0, 0), (17, .iadd, 1, 0, 0, 0), (18, .iload_n 2, 1, 0, 0, 0), (19, .bipush 10, 2, 0, 0, 0), (21, .irem, 1, 0, 0, 0), (22, .iastore, 1, 0, 0, 0), (23, .iload_n 2, 1, 0, 0, 0), (24, .bipush 10, 2, 0, 0, 0), (26, .idiv, 1, 0, 0, 0), (27, .istore_n 2, 1, 0, 0, 0), (28, .iinc 3 (-1), 3, 0, 0, 0), (31, .goto (-27), 3, 0, 0, 0), (34, .aload_n 0, 1, 0, 0, 0), (35, .iconst 0, 1, 0, 0, 0), (36, .dup2, 1, 0, 0, 0), (37, .iaload, 1, 0, 0, 0), (38, .iconst 1, 1, 0, 0, 0), (39, .iadd, 1, 0, 0, 0), (40, .iastore, 1, 0, 0, 0), (41, .return_, 1, 0, 0, 0)]
def vm_m131 : vm_M := (RX11, yX11_line, cX11_line, 4, none, vm_k131)
def vm_k132 : List vm_I := [(0, .aload_n 0, 1, 0, 0, 0), (1, .iconst 2, 1, 0, 0, 0), (2, .iaload, 1, 0, 0, 0), (3, .istore 4, 2, 0, 0, 0), (5, .iload_n 3, 1, 0, 0, 0), (6, .istore 5, 2, 0, 0, 0), (8, .aload_n 0, 1, 0, 0, 0), (9, .bipush 47, 2, 0, 0, 0), (11, .iload 4, 2, 0, 0, 0), (13, .iadd, 1, 0, 0, 0), (14, .iload_n 1, 1, 0, 0, 0), (15, .iastore, 1, 0, 0, 0), (16, .aload_n 0, 1, 0, 0, 0), (17, .bipush 51, 2, 0, 0, 0), (19, .iload 4, 2, 0, 0, 0), (21, .iadd, 1, 0, 0, 0), (22, .iload_n 2, 1, 0, 0, 0), (23, .iastore, 1, 0, 0, 0), (24, .iconst 3, 1, 0, 0, 0), (25, .istore 6, 2, 0, 0, 0), (27, .iload 6, 2, 0, 0, 0), (29, .ifCond .lt 33, 3, 0, 0, 0), (32, .aload_n 0, 1, 0, 0, 0), (33, .bipush 55, 2, 0, 0, 0), (35, .iconst 4, 1, 0, 0, 0), (36, .iload 4, 2, 0, 0, 0), (38, .imul, 1, 0, 0, 0), (39, .iadd, 1, 0, 0, 0), (40, .iload 6, 2, 0, 0, 0), (42, .iadd, 1, 0, 0, 0), (43, .iload 5, 2, 0, 0, 0), (45, .bipush 10, 2, 0, 0, 0), (47, .irem, 1, 0, 0, 0), (48, .iastore, 1, 0, 0, 0), (49, .iload 5, 2, 0, 0, 0), (51, .bipush 10, 2, 0, 0, 0), (53, .idiv, 1, 0, 0, 0), (54, .istore 5, 2, 0, 0, 0), (56, .iinc 6 (-1), 3, 0, 0, 0), (59, .goto (-32), 3, 0, 0, 0), (62, .aload_n 0, 1, 0, 0, 0), (63, .iconst 2, 1, 0, 0, 0), (64, .dup2, 1, 0, 0, 0), (65, .iaload, 1, 0, 0, 0), (66, .iconst 1, 1, 0, 0, 0), (67, .iadd, 1, 0, 0, 0), (68, .iastore, 1, 0, 0, 0), (69, .return_, 1, 0, 0, 0)]
def vm_m132 : vm_M := (RX11, yX11_company, cX11_company, 7, none, vm_k132)
def vm_k133 : List vm_I := [(0, .iconst 0, 1, 0, 0, 0), (1, .istore_n 1, 1, 0, 0, 0), (2, .iload_n 1, 1, 0, 0, 0), (3, .bipush 33, 2, 0, 0, 0), (5, .if_icmp .ge 16, 3, 0, 0, 0), (8, .aload_n 0, 1, 0, 0, 0), (9, .getfield 16, 3, 10, 2, 0), (12, .iload_n 1, 1, 0, 0, 0), (13, .iconst 0, 1, 0, 0, 0), (14, .iastore, 1, 0, 0, 0), (15, .iinc 1 1, 3, 0, 0, 0), (18, .goto (-16), 3, 0, 0, 0), (21, .iconst 0, 1, 0, 0, 0), (22, .istore_n 1, 1, 0, 0, 0), (23, .iload_n 1, 1, 0, 0, 0), (24, .iconst 4, 1, 0, 0, 0), (25, .if_icmp .ge 134, 3, 0, 0, 0), (28, .iload_n 1, 1, 0, 0, 0), (29, .aload_n 0, 1, 0, 0, 0), (30, .getfield 7, 3, 10, 0, 0), (33, .iconst 2, 1, 0, 0, 0), (34, .iaload, 1, 0, 0, 0), (35, .if_icmp .ge 7, 3, 0, 0, 0), (38, .iconst 1, 1, 0, 0, 0), (39, .goto 4, 3, 0, 0, 0), (42, .iconst 0, 1, 0, 0, 0), (43, .istore_n 2, 1, 0, 0, 0), (44, .aload_n 0, 1, 0, 0, 0), (45, .getfield 16, 3, 10, 2, 0), (48, .iconst 0, 1, 0, 0, 0), (49, .iload_n 1, 1, 0, 0, 0), (50, .iadd, 1, 0, 0, 0), (51, .iload_n 2, 1, 0, 0, 0), (52, .ifCond .eq 15, 3, 0, 0, 0), (55, .aload_n 0, 1, 0, 0, 0), (56, .getfield 7, 3, 10, 0, 0), (59, .bipush 51, 2, 0, 0, 0), (61, .iload_n 1, 1, 0, 0, 0), (62, .iadd, 1, 0, 0, 0), (63, .iaload, 1, 0, 0, 0), (64, .goto 4, 3, 0, 0, 0), (67, .iconst 0, 1, 0, 0, 0), (68, .iastore, 1, 0, 0, 0), (69, .aload_n 0, 1, 0, 0, 0), (70, .getfield 16, 3, 10, 2, 0), (73, .iconst 4, 1, 0, 0, 0), (74, .iload_n 1, 1, 0, 0, 0), (75, .iadd, 1, 0, 0, 0), (76, .iload_n 2, 1, 0, 0, 0), (77, .ifCond .eq 15, 3, 0, 0, 0), (80, .aload_n 0, 1, 0, 0, 0), (81, .getfield 7, 3, 10, 0, 0), (84, .bipush 47, 2, 0, 0, 0), (86, .iload_n 1, 1, 0, 0, 0), (87, .iadd, 1, 0, 0, 0), (88, .iaload, 1, 0, 0, 0), (89, .goto 5, 3, 0, 0, 0), (92, .bipush (-4), 2, 0, 0, 0), (94, .iastore, 1, 0, 0, 0), (95, .aload_n 0, 1, 0, 0, 0), (96, .getfield 16, 3, 10, 2, 0), (99, .bipush 24, 2, 0, 0, 0), (101, .iload_n 1, 1, 0, 0, 0), (102, .iadd, 1, 0, 0, 0), (103, .bipush (-4), 2, 0, 0, 0), (105, .iastore, 1, 0, 0, 0), (106, .iconst 0, 1, 0, 0, 0), (107, .istore_n 3, 1, 0, 0, 0), (108, .iload_n 3, 1, 0, 0, 0), (109, .iconst 4, 1, 0, 0, 0), (110, .if_icmp .ge 43, 3, 0, 0, 0), (113, .aload_n 0, 1, 0, 0, 0), (114, .getfield 16, 3, 10, 2, 0), (117, .bipush 8, 2, 0, 0, 0), (119, .iconst 4, 1, 0, 0, 0), (120, .iload_n 1, 1, 0, 0, 0), (121, .imul, 1, 0, 0, 0), (122, .iadd, 1, 0, 0, 0), (123, .iload_n 3, 1, 0, 0, 0), (124, .iadd, 1, 0, 0, 0), (125, .iload_n 2, 1, 0, 0, 0), (126, .ifCond .eq 19, 3, 0, 0, 0), (129, .aload_n 0, 1, 0, 0, 0), (130, .getfield 7, 3, 10, 0, 0), (133, .bipush 55, 2, 0, 0, 0), (135, .iconst 4, 1, 0, 0, 0), (136, .iload_n 1, 1, 0, 0, 0), (137, .imul, 1, 0, 0, 0), (138, .iadd, 1, 0, 0, 0), (139, .iload_n 3, 1, 0, 0, 0), (140, .iadd, 1, 0, 0, 0), (141, .iaload, 1, 0, 0, 0), (142, .goto 4, 3, 0, 0, 0), (145, .iconst 0, 1, 0, 0, 0), (146, .iastore, 1, 0, 0, 0), (147, .iinc 3 1, 3, 0, 0, 0), (150, .goto (-42), 3, 0, 0, 0), (153, .iinc 1 1, 3, 0, 0, 0), (156, .goto (-133), 3, 0, 0, 0), (159, .aload_n 0, 1, 0, 0, 0), (160, .iconst 0, 1, 0, 0, 0), (161, .putfield 72, 3, 10, 5, 0), (164, .aload_n 0, 1, 0, 0, 0), (165, .iconst 0, 1, 0, 0, 0), (166, .putfield 76, 3, 10, 7, 0), (169, .aload_n 0, 1, 0, 0, 0), (170, .iconst 0, 1, 0, 0, 0), (171, .putfield 79, 3, 10, 9, 0), (174, .return_, 1, 0, 0, 0)]
def vm_m133 : vm_M := (RX11, yX11_begins, cX11_begins, 4, none, vm_k133)
def vm_k134 : List vm_I := [(0, .iload_n 1, 1, 0, 0, 0), (1, .i2l, 1, 0, 0, 0), (2, .ldc2_w 82, 3, 3, 0, 0), (5, .ldc2_w 84, 3, 4, 0, 0), (8, .invokestatic 86, 3, 1, 128, 3), (11, .ifCond .ne 5, 3, 0, 0, 0), (14, .iconst (-1), 1, 0, 0, 0), (15, .ireturn, 1, 0, 0, 0), (16, .aload_n 0, 1, 0, 0, 0), (17, .getfield 90, 3, 10, 11, 0), (20, .sipush 200, 3, 0, 0, 0), (23, .if_icmp .ne 6, 3, 0, 0, 0), (26, .bipush (-3), 2, 0, 0, 0), (28, .ireturn, 1, 0, 0, 0), (29, .aload_n 0, 1, 0, 0, 0), (30, .getfield 31, 3, 10, 10, 0), (33, .aload_n 0, 1, 0, 0, 0), (34, .getfield 90, 3, 10, 11, 0), (37, .iload_n 1, 1, 0, 0, 0), (38, .iastore, 1, 0, 0, 0), (39, .aload_n 0, 1, 0, 0, 0), (40, .dup, 1, 0, 0, 0), (41, .getfield 90, 3, 10, 11, 0), (44, .iconst 1, 1, 0, 0, 0), (45, .iadd, 1, 0, 0, 0), (46, .putfield 90, 3, 10, 11, 0), (49, .aload_n 0, 1, 0, 0, 0), (50, .getfield 90, 3, 10, 11, 0), (53, .ireturn, 1, 0, 0, 0)]
def vm_m134 : vm_M := (RX11, yX11_write, cX11_write, 2, (some .int), vm_k134)
def vm_k135 : List vm_I := [(0, .aload_n 0, 1, 0, 0, 0), (1, .getfield 90, 3, 10, 11, 0), (4, .istore_n 1, 1, 0, 0, 0), (5, .aload_n 0, 1, 0, 0, 0), (6, .iconst 0, 1, 0, 0, 0), (7, .putfield 90, 3, 10, 11, 0), (10, .iload_n 1, 1, 0, 0, 0), (11, .ireturn, 1, 0, 0, 0)]
def vm_m135 : vm_M := (RX11, yX11_wipe, cX11_wipe, 2, (some .int), vm_k135)
def vm_k136 : List vm_I := [(0, .aload_n 0, 1, 0, 0, 0), (1, .getfield 93, 3, 10, 12, 0), (4, .aload_n 0, 1, 0, 0, 0), (5, .getfield 90, 3, 10, 11, 0), (8, .if_icmp .ge 15, 3, 0, 0, 0), (11, .aload_n 0, 1, 0, 0, 0), (12, .getfield 31, 3, 10, 10, 0), (15, .aload_n 0, 1, 0, 0, 0), (16, .getfield 93, 3, 10, 12, 0), (19, .iaload, 1, 0, 0, 0), (20, .goto 4, 3, 0, 0, 0), (23, .iconst (-1), 1, 0, 0, 0), (24, .ireturn, 1, 0, 0, 0)]
def vm_m136 : vm_M := (RX11, yX11_here, cX11_here, 1, (some .int), vm_k136)
def vm_k137 : List vm_I := [(0, .aload_n 0, 1, 0, 0, 0), (1, .invokevirtual 96, 3, 0, 136, 1000), (4, .iload_n 1, 1, 0, 0, 0), (5, .if_icmp .ne 7, 3, 0, 0, 0), (8, .iconst 1, 1, 0, 0, 0), (9, .goto 4, 3, 0, 0, 0), (12, .iconst 0, 1, 0, 0, 0), (13, .istore_n 2, 1, 0, 0, 0), (14, .aload_n 0, 1, 0, 0, 0), (15, .dup, 1, 0, 0, 0), (16, .getfield 93, 3, 10, 12, 0), (19, .iload_n 2, 1, 0, 0, 0), (20, .ifCond .eq 7, 3, 0, 0, 0), (23, .iconst 1, 1, 0, 0, 0), (24, .goto 4, 3, 0, 0, 0), (27, .iconst 0, 1, 0, 0, 0), (28, .iadd, 1, 0, 0, 0), (29, .putfield 93, 3, 10, 12, 0), (32, .iload_n 2, 1, 0, 0, 0), (33, .ireturn, 1, 0, 0, 0)]
def vm_m137 : vm_M := (RX11, yX11_takes, cX11_takes, 3, (some .boolean), vm_k137)
def vm_k138 : List vm_I := [(0, .iload_n 0, 1, 0, 0, 0), (1, .i2l, 1, 0, 0, 0), (2, .ldc2_w 100, 3, 5, 0, 0), (5, .ldc2_w 102, 3, 6, 0, 0), (8, .invokestatic 86, 3, 1, 128, 3), (11, .ireturn, 1, 0, 0, 0)]
def vm_m138 : vm_M := (RX11, yX11_isFigure, cX11_isFigure, 1, (some .boolean), vm_k138)
def vm_k139 : List vm_I := [(0, .aload_n 0, 1, 0, 0, 0), (1, .invokevirtual 96, 3, 0, 136, 1000), (4, .invokestatic 104, 3, 1, 138, 1), (7, .ifCond .ne 5, 3, 0, 0, 0), (10, .iconst 0, 1, 0, 0, 0), (11, .ireturn, 1, 0, 0, 0), (12, .aload_n 0, 1, 0, 0, 0), (13, .aload_n 0, 1, 0, 0, 0), (14, .invokevirtual 96, 3, 0, 136, 1000), (17, .bipush 48, 2, 0, 0, 0), (19, .isub, 1, 0, 0, 0), (20, .putfield 108, 3, 10, 13, 0), (23, .aload_n 0, 1, 0, 0, 0), (24, .dup, 1, 0, 0, 0), (25, .getfield 93, 3, 10, 12, 0), (28, .iconst 1, 1, 0, 0, 0), (29, .iadd, 1, 0, 0, 0), (30, .putfield 93, 3, 10, 12, 0), (33, .aload_n 0, 1, 0, 0, 0), (34, .invokevirtual 96, 3, 0, 136, 1000), (37, .invokestatic 104, 3, 1, 138, 1), (40, .ifCond .eq 32, 3, 0, 0, 0), (43, .aload_n 0, 1, 0, 0, 0), (44, .bipush 10, 2, 0, 0, 0), (46, .aload_n 0, 1, 0, 0, 0), (47, .getfield 108, 3, 10, 13, 0), (50, .imul, 1, 0, 0, 0), (51, .aload_n 0, 1, 0, 0, 0), (52, .invokevirtual 96, 3, 0, 136, 1000), (55, .iadd, 1, 0, 0, 0), (56, .bipush 48, 2, 0, 0, 0), (58, .isub, 1, 0, 0, 0), (59, .putfield 108, 3, 10, 13, 0), (62, .aload_n 0, 1, 0, 0, 0), (63, .dup, 1, 0, 0, 0), (64, .getfield 93, 3, 10, 12, 0), (67, .iconst 1, 1, 0, 0, 0), (68, .iadd, 1, 0, 0, 0), (69, .putfield 93, 3, 10, 12, 0), (72, .aload_n 0, 1, 0, 0, 0), (73, .getfield 108, 3, 10, 13, 0), (76, .i2l, 1, 0, 0, 0), (77, .iload_n 1, 1, 0, 0, 0), (78, .i2l, 1, 0, 0, 0), (79, .iload_n 2, 1, 0, 0, 0), (80, .i2l, 1, 0, 0, 0), (81, .invokestatic 86, 3, 1, 128, 3), (84, .ireturn, 1, 0, 0, 0)]
def vm_m139 : vm_M := (RX11, yX11_number, cX11_number, 3, (some .boolean), vm_k139)
def vm_k140 : List vm_I := [(0, .iconst 0, 1, 0, 0, 0), (1, .istore_n 1, 1, 0, 0, 0), (2, .iconst 0, 1, 0, 0, 0), (3, .istore_n 2, 1, 0, 0, 0), (4, .aload_n 0, 1, 0, 0, 0), (5, .invokevirtual 96, 3, 0, 136, 1000), (8, .invokestatic 104, 3, 1, 138, 1), (11, .ifCond .eq 37, 3, 0, 0, 0), (14, .iload_n 2, 1, 0, 0, 0), (15, .iconst 4, 1, 0, 0, 0), (16, .if_icmp .ge 32, 3, 0, 0, 0), (19, .bipush 10, 2, 0, 0, 0), (21, .iload_n 1, 1, 0, 0, 0), (22, .imul, 1, 0, 0, 0), (23, .aload_n 0, 1, 0, 0, 0), (24, .invokevirtual 96, 3, 0, 136, 1000), (27, .iadd, 1, 0, 0, 0), (28, .bipush 48, 2, 0, 0, 0), (30, .isub, 1, 0, 0, 0), (31, .istore_n 1, 1, 0, 0, 0), (32, .iinc 2 1, 3, 0, 0, 0), (35, .aload_n 0, 1, 0, 0, 0), (36, .dup, 1, 0, 0, 0), (37, .getfield 93, 3, 10, 12, 0), (40, .iconst 1, 1, 0, 0, 0), (41, .iadd, 1, 0, 0, 0), (42, .putfield 93, 3, 10, 12, 0), (45, .goto (-41), 3, 0, 0, 0), (48, .iload_n 2, 1, 0, 0, 0), (49, .iconst 4, 1, 0, 0, 0), (50, .if_icmp .lt 14, 3, 0, 0, 0), (53, .aload_n 0, 1, 0, 0, 0), (54, .getfield 13, 3, 10, 1, 0), (57, .iconst 0, 1, 0, 0, 0), (58, .iaload, 1, 0, 0, 0), (59, .bipush 9, 2, 0, 0, 0), (61, .if_icmp .ne 5, 3, 0, 0, 0), (64, .iconst 0, 1, 0, 0, 0), (65, .ireturn, 1, 0, 0, 0), (66, .aload_n 0, 1, 0, 0, 0), (67, .getfield 13, 3, 10, 1, 0), (70, .iload_n 1, 1, 0, 0, 0), (71, .invokestatic 61, 3, 1, 131, 2), (74, .iconst 1, 1, 0, 0, 0), (75, .ireturn, 1, 0, 0, 0)]
def vm_m140 : vm_M := (RX11, yX11_readsLine, cX11_readsLine, 3, (some .boolean), vm_k140)
def vm_k141 : List vm_I := [(0, .aload_n 0, 1, 0, 0, 0), (1, .getfield 13, 3, 10, 1, 0), (4, .iconst 1, 1, 0, 0, 0), (5, .iaload, 1, 0, 0, 0), (6, .bipush 8, 2, 0, 0, 0), (8, .if_icmp .eq 12, 3, 0, 0, 0), (11, .aload_n 0, 1, 0, 0, 0), (12, .iconst 0, 1, 0, 0, 0), (13, .iconst 3, 1, 0, 0, 0), (14, .invokevirtual 111, 3, 0, 139, 1002), (17, .ifCond .ne 5, 3, 0, 0, 0), (20, .iconst 0, 1, 0, 0, 0), (21, .ireturn, 1, 0, 0, 0), (22, .aload_n 0, 1, 0, 0, 0), (23, .getfield 13, 3, 10, 1, 0), (26, .bipush 39, 2, 0, 0, 0), (28, .aload_n 0, 1, 0, 0, 0), (29, .getfield 13, 3, 10, 1, 0), (32, .iconst 1, 1, 0, 0, 0), (33, .iaload, 1, 0, 0, 0), (34, .iadd, 1, 0, 0, 0), (35, .aload_n 0, 1, 0, 0, 0), (36, .getfield 108, 3, 10, 13, 0), (39, .iastore, 1, 0, 0, 0), (40, .aload_n 0, 1, 0, 0, 0), (41, .getfield 13, 3, 10, 1, 0), (44, .iconst 1, 1, 0, 0, 0), (45, .dup2, 1, 0, 0, 0), (46, .iaload, 1, 0, 0, 0), (47, .iconst 1, 1, 0, 0, 0), (48, .iadd, 1, 0, 0, 0), (49, .iastore, 1, 0, 0, 0), (50, .iconst 1, 1, 0, 0, 0), (51, .ireturn, 1, 0, 0, 0)]
def vm_m141 : vm_M := (RX11, yX11_readsRain, cX11_readsRain, 1, (some .boolean), vm_k141)
def vm_k142 : List vm_I := [(0, .aload_n 0, 1, 0, 0, 0), (1, .getfield 13, 3, 10, 1, 0), (4, .iconst 2, 1, 0, 0, 0), (5, .iaload, 1, 0, 0, 0), (6, .iconst 4, 1, 0, 0, 0), (7, .if_icmp .eq 28, 3, 0, 0, 0), (10, .aload_n 0, 1, 0, 0, 0), (11, .iconst 0, 1, 0, 0, 0), (12, .aload_n 0, 1, 0, 0, 0), (13, .getfield 13, 3, 10, 1, 0), (16, .iconst 0, 1, 0, 0, 0), (17, .iaload, 1, 0, 0, 0), (18, .iconst 1, 1, 0, 0, 0), (19, .isub, 1, 0, 0, 0), (20, .invokevirtual 111, 3, 0, 139, 1002), (23, .ifCond .eq 12, 3, 0, 0, 0), (26, .aload_n 0, 1, 0, 0, 0), (27, .bipush 44, 2, 0, 0, 0), (29, .invokevirtual 115, 3, 0, 137, 1001), (32, .ifCond .ne 5, 3, 0, 0, 0), (35, .iconst 0, 1, 0, 0, 0), (36, .ireturn, 1, 0, 0, 0), (37, .aload_n 0, 1, 0, 0, 0), (38, .getfield 108, 3, 10, 13, 0), (41, .istore_n 1, 1, 0, 0, 0), (42, .aload_n 0, 1, 0, 0, 0), (43, .iconst 1, 1, 0, 0, 0), (44, .bipush 20, 2, 0, 0, 0), (46, .invokevirtual 111, 3, 0, 139, 1002), (49, .ifCond .ne 5, 3, 0, 0, 0), (52, .iconst 0, 1, 0, 0, 0), (53, .ireturn, 1, 0, 0, 0), (54, .aload_n 0, 1, 0, 0, 0), (55, .getfield 108, 3, 10, 13, 0), (58, .istore_n 2, 1, 0, 0, 0), (59, .iconst 0, 1, 0, 0, 0), (60, .istore_n 3, 1, 0, 0, 0), (61, .iconst 0, 1, 0, 0, 0), (62, .istore 4, 2, 0, 0, 0), (64, .iload 4, 2, 0, 0, 0), (66, .iconst 4, 1, 0, 0, 0), (67, .if_icmp .ge 40, 3, 0, 0, 0), (70, .aload_n 0, 1, 0, 0, 0), (71, .bipush 44, 2, 0, 0, 0), (73, .invokevirtual 115, 3, 0, 137, 1001), (76, .ifCond .eq 13, 3, 0, 0, 0), (79, .aload_n 0, 1, 0, 0, 0), (80, .iconst 0, 1, 0, 0, 0), (81, .bipush 9, 2, 0, 0, 0), (83, .invokevirtual 111, 3, 0, 139, 1002), (86, .ifCond .ne 5, 3, 0, 0, 0), (89, .iconst 0, 1, 0, 0, 0), (90, .ireturn, 1, 0, 0, 0), (91, .bipush 10, 2, 0, 0, 0), (93, .iload_n 3, 1, 0, 0, 0), (94, .imul, 1, 0, 0, 0), (95, .aload_n 0, 1, 0, 0, 0), (96, .getfield 108, 3, 10, 13, 0), (99, .iadd, 1, 0, 0, 0), (100, .istore_n 3, 1, 0, 0, 0), (101, .iinc 4 1, 3, 0, 0, 0), (104, .goto (-40), 3, 0, 0, 0), (107, .aload_n 0, 1, 0, 0, 0), (108, .getfield 13, 3, 10, 1, 0), (111, .iload_n 1, 1, 0, 0, 0), (112, .iload_n 2, 1, 0, 0, 0), (113, .iload_n 3, 1, 0, 0, 0), (114, .invokestatic 65, 3, 1, 132, 4), (117, .iconst 1, 1, 0, 0, 0), (118, .ireturn, 1, 0, 0, 0)]
def vm_m142 : vm_M := (RX11, yX11_readsCompany, cX11_readsCompany, 5, (some .boolean), vm_k142)
def vm_k143 : List vm_I := [(0, .aload_n 0, 1, 0, 0, 0), (1, .invokevirtual 96, 3, 0, 136, 1000), (4, .istore_n 1, 1, 0, 0, 0), (5, .aload_n 0, 1, 0, 0, 0), (6, .dup, 1, 0, 0, 0), (7, .getfield 93, 3, 10, 12, 0), (10, .iconst 1, 1, 0, 0, 0), (11, .iadd, 1, 0, 0, 0), (12, .putfield 93, 3, 10, 12, 0), (15, .iload_n 1, 1, 0, 0, 0), (16, .lookupswitch 51 #[(99, 46), (114, 41), (116, 36)], 36, 0, 0, 0), (52, .aload_n 0, 1, 0, 0, 0), (53, .invokevirtual 118, 3, 0, 140, 1000), (56, .ireturn, 1, 0, 0, 0), (57, .aload_n 0, 1, 0, 0, 0), (58, .invokevirtual 122, 3, 0, 141, 1000), (61, .ireturn, 1, 0, 0, 0), (62, .aload_n 0, 1, 0, 0, 0), (63, .invokevirtual 125, 3, 0, 142, 1000), (66, .ireturn, 1, 0, 0, 0), (67, .iconst 0, 1, 0, 0, 0), (68, .ireturn, 1, 0, 0, 0)]
def vm_m143 : vm_M := (RX11, yX11_readsItem, cX11_readsItem, 2, (some .boolean), vm_k143)
def vm_k144 : List vm_I := [(0, .iconst 0, 1, 0, 0, 0), (1, .istore_n 1, 1, 0, 0, 0), (2, .iload_n 1, 1, 0, 0, 0), (3, .bipush 71, 2, 0, 0, 0), (5, .if_icmp .ge 16, 3, 0, 0, 0), (8, .aload_n 0, 1, 0, 0, 0), (9, .getfield 13, 3, 10, 1, 0), (12, .iload_n 1, 1, 0, 0, 0), (13, .iconst 0, 1, 0, 0, 0), (14, .iastore, 1, 0, 0, 0), (15, .iinc 1 1, 3, 0, 0, 0), (18, .goto (-16), 3, 0, 0, 0), (21, .aload_n 0, 1, 0, 0, 0), (22, .iconst 0, 1, 0, 0, 0), (23, .putfield 93, 3, 10, 12, 0), (26, .aload_n 0, 1, 0, 0, 0), (27, .getfield 93, 3, 10, 12, 0), (30, .aload_n 0, 1, 0, 0, 0), (31, .getfield 90, 3, 10, 11, 0), (34, .if_icmp .ge 29, 3, 0, 0, 0), (37, .aload_n 0, 1, 0, 0, 0), (38, .getfield 93, 3, 10, 12, 0), (41, .istore_n 1, 1, 0, 0, 0), (42, .aload_n 0, 1, 0, 0, 0), (43, .invokevirtual 128, 3, 0, 143, 1000), (46, .ifCond .eq 12, 3, 0, 0, 0), (49, .aload_n 0, 1, 0, 0, 0), (50, .bipush 59, 2, 0, 0, 0), (52, .invokevirtual 115, 3, 0, 137, 1001), (55, .ifCond .ne 5, 3, 0, 0, 0), (58, .iload_n 1, 1, 0, 0, 0), (59, .ireturn, 1, 0, 0, 0), (60, .goto (-34), 3, 0, 0, 0), (63, .bipush (-4), 2, 0, 0, 0), (65, .ireturn, 1, 0, 0, 0)]
def vm_m144 : vm_M := (RX11, yX11_reads, cX11_reads, 2, (some .int), vm_k144)
def vm_k145 : List vm_I := [(0, .aload_n 0, 1, 0, 0, 0), (1, .invokevirtual 131, 3, 0, 144, 1000), (4, .ireturn, 1, 0, 0, 0)]
def vm_m145 : vm_M := (RX11, yX11_fault, cX11_fault, 1, (some .int), vm_k145)
def vm_k146 : List vm_I := [(0, .iconst 1, 1, 0, 0, 0), (1, .istore_n 1, 1, 0, 0, 0), (2, .iconst 0, 1, 0, 0, 0), (3, .istore_n 2, 1, 0, 0, 0), (4, .iload_n 2, 1, 0, 0, 0), (5, .iconst 4, 1, 0, 0, 0), (6, .aload_n 0, 1, 0, 0, 0), (7, .getfield 13, 3, 10, 1, 0), (10, .iconst 0, 1, 0, 0, 0), (11, .iaload, 1, 0, 0, 0), (12, .imul, 1, 0, 0, 0), (13, .if_icmp .ge 49, 3, 0, 0, 0), (16, .iload_n 1, 1, 0, 0, 0), (17, .ifCond .eq 37, 3, 0, 0, 0), (20, .aload_n 0, 1, 0, 0, 0), (21, .getfield 13, 3, 10, 1, 0), (24, .iconst 3, 1, 0, 0, 0), (25, .iload_n 2, 1, 0, 0, 0), (26, .iadd, 1, 0, 0, 0), (27, .iaload, 1, 0, 0, 0), (28, .bipush 9, 2, 0, 0, 0), (30, .if_icmp .eq 20, 3, 0, 0, 0), (33, .aload_n 0, 1, 0, 0, 0), (34, .getfield 13, 3, 10, 1, 0), (37, .iconst 3, 1, 0, 0, 0), (38, .iload_n 2, 1, 0, 0, 0), (39, .iadd, 1, 0, 0, 0), (40, .iaload, 1, 0, 0, 0), (41, .aload_n 0, 1, 0, 0, 0), (42, .getfield 13, 3, 10, 1, 0), (45, .iconst 0, 1, 0, 0, 0), (46, .iaload, 1, 0, 0, 0), (47, .if_icmp .ge 7, 3, 0, 0, 0), (50, .iconst 1, 1, 0, 0, 0), (51, .goto 4, 3, 0, 0, 0), (54, .iconst 0, 1, 0, 0, 0), (55, .istore_n 1, 1, 0, 0, 0), (56, .iinc 2 1, 3, 0, 0, 0), (59, .goto (-55), 3, 0, 0, 0), (62, .iload_n 1, 1, 0, 0, 0), (63, .ireturn, 1, 0, 0, 0)]
def vm_m146 : vm_M := (RX11, yX11_areTold, cX11_areTold, 3, (some .boolean), vm_k146)
def vm_k147 : List vm_I := [(0, .aload_n 0, 1, 0, 0, 0), (1, .invokevirtual 131, 3, 0, 144, 1000), (4, .bipush (-4), 2, 0, 0, 0), (6, .if_icmp .ne 19, 3, 0, 0, 0), (9, .aload_n 0, 1, 0, 0, 0), (10, .getfield 13, 3, 10, 1, 0), (13, .iconst 2, 1, 0, 0, 0), (14, .iaload, 1, 0, 0, 0), (15, .ifCond .eq 10, 3, 0, 0, 0), (18, .aload_n 0, 1, 0, 0, 0), (19, .invokevirtual 134, 3, 0, 146, 1000), (22, .ifCond .ne 6, 3, 0, 0, 0), (25, .bipush (-2), 2, 0, 0, 0), (27, .ireturn, 1, 0, 0, 0), (28, .aload_n 0, 1, 0, 0, 0), (29, .getfield 13, 3, 10, 1, 0), (32, .iconst 0, 1, 0, 0, 0), (33, .aload_n 0, 1, 0, 0, 0), (34, .getfield 7, 3, 10, 0, 0), (37, .iconst 0, 1, 0, 0, 0), (38, .bipush 71, 2, 0, 0, 0), (40, .invokestatic 137, 3, 1, 130, 5), (43, .aload_n 0, 1, 0, 0, 0), (44, .invokevirtual 69, 3, 0, 133, 1000), (47, .aload_n 0, 1, 0, 0, 0), (48, .getfield 7, 3, 10, 0, 0), (51, .iconst 2, 1, 0, 0, 0), (52, .iaload, 1, 0, 0, 0), (53, .ireturn, 1, 0, 0, 0)]
def vm_m147 : vm_M := (RX11, yX11_lay, cX11_lay, 1, (some .int), vm_k147)
def vm_k148 : List vm_I := [(0, .iload_n 1, 1, 0, 0, 0), (1, .i2l, 1, 0, 0, 0), (2, .lconst 0, 1, 0, 0, 0), (3, .aload_n 0, 1, 0, 0, 0), (4, .getfield 7, 3, 10, 0, 0), (7, .iconst 0, 1, 0, 0, 0), (8, .iaload, 1, 0, 0, 0), (9, .iconst 1, 1, 0, 0, 0), (10, .isub, 1, 0, 0, 0), (11, .i2l, 1, 0, 0, 0), (12, .invokestatic 86, 3, 1, 128, 3), (15, .ireturn, 1, 0, 0, 0)]
def vm_m148 : vm_M := (RX11, yX11_isLine, cX11_isLine, 2, (some .boolean), vm_k148)
def vm_k149 : List vm_I := [(0, .iload_n 0, 1, 0, 0, 0), (1, .i2l, 1, 0, 0, 0), (2, .lconst 0, 1, 0, 0, 0), (3, .ldc2_w 141, 3, 7, 0, 0), (6, .invokestatic 86, 3, 1, 128, 3), (9, .ireturn, 1, 0, 0, 0)]
def vm_m149 : vm_M := (RX11, yX11_isWood, cX11_isWood, 1, (some .boolean), vm_k149)
def vm_k150 : List vm_I := [(0, .iload_n 1, 1, 0, 0, 0), (1, .i2l, 1, 0, 0, 0), (2, .lconst 0, 1, 0, 0, 0), (3, .aload_n 0, 1, 0, 0, 0), (4, .getfield 7, 3, 10, 0, 0), (7, .iconst 2, 1, 0, 0, 0), (8, .iaload, 1, 0, 0, 0), (9, .iconst 1, 1, 0, 0, 0), (10, .isub, 1, 0, 0, 0), (11, .i2l, 1, 0, 0, 0), (12, .invokestatic 86, 3, 1, 128, 3), (15, .ireturn, 1, 0, 0, 0)]
def vm_m150 : vm_M := (RX11, yX11_isCompany, cX11_isCompany, 2, (some .boolean), vm_k150)
def vm_k151 : List vm_I := [(0, .aload_n 0, 1, 0, 0, 0), (1, .getfield 7, 3, 10, 0, 0), (4, .iconst 3, 1, 0, 0, 0), (5, .iconst 4, 1, 0, 0, 0), (6, .iload_n 1, 1, 0, 0, 0), (7, .imul, 1, 0, 0, 0), (8, .iadd, 1, 0, 0, 0), (9, .iload_n 2, 1, 0, 0, 0), (10, .iadd, 1, 0, 0, 0), (11, .iaload, 1, 0, 0, 0), (12, .istore_n 3, 1, 0, 0, 0), (13, .iload_n 3, 1, 0, 0, 0), (14, .bipush 9, 2, 0, 0, 0), (16, .if_icmp .ne 8, 3, 0, 0, 0), (19, .bipush (-4), 2, 0, 0, 0), (21, .goto 4, 3, 0, 0, 0), (24, .iload_n 3, 1, 0, 0, 0), (25, .ireturn, 1, 0, 0, 0)]
def vm_m151 : vm_M := (RX11, yX11_behind, cX11_behind, 4, (some .int), vm_k151)
def vm_k152 : List vm_I := [(0, .aload_n 0, 1, 0, 0, 0), (1, .iload_n 1, 1, 0, 0, 0), (2, .iload_n 2, 1, 0, 0, 0), (3, .invokevirtual 143, 3, 0, 151, 1002), (6, .istore_n 3, 1, 0, 0, 0), (7, .iload_n 3, 1, 0, 0, 0), (8, .bipush (-4), 2, 0, 0, 0), (10, .if_icmp .ne 7, 3, 0, 0, 0), (13, .iload_n 1, 1, 0, 0, 0), (14, .goto 4, 3, 0, 0, 0), (17, .iload_n 3, 1, 0, 0, 0), (18, .ireturn, 1, 0, 0, 0)]
def vm_m152 : vm_M := (RX11, yX11_goes, cX11_goes, 4, (some .int), vm_k152)
def vm_k153 : List vm_I := [(0, .aload_n 0, 1, 0, 0, 0), (1, .getfield 7, 3, 10, 0, 0), (4, .iconst 1, 1, 0, 0, 0), (5, .iaload, 1, 0, 0, 0), (6, .ifCond .ne 7, 3, 0, 0, 0), (9, .iconst 0, 1, 0, 0, 0), (10, .goto 19, 3, 0, 0, 0), (13, .aload_n 0, 1, 0, 0, 0), (14, .getfield 7, 3, 10, 0, 0), (17, .bipush 39, 2, 0, 0, 0), (19, .iload_n 1, 1, 0, 0, 0), (20, .aload_n 0, 1, 0, 0, 0), (21, .getfield 7, 3, 10, 0, 0), (24, .iconst 1, 1, 0, 0, 0), (25, .iaload, 1, 0, 0, 0), (26, .irem, 1, 0, 0, 0), (27, .iadd, 1, 0, 0, 0), (28, .iaload, 1, 0, 0, 0), (29, .ireturn, 1, 0, 0, 0)]
def vm_m153 : vm_M := (RX11, yX11_rainAt, cX11_rainAt, 2, (some .int), vm_k153)
def vm_k154 : List vm_I := [(0, .aload_n 0, 1, 0, 0, 0), (1, .iload_n 1, 1, 0, 0, 0), (2, .invokevirtual 147, 3, 0, 148, 1001), (5, .ifCond .eq 19, 3, 0, 0, 0), (8, .iload_n 2, 1, 0, 0, 0), (9, .invokestatic 150, 3, 1, 149, 1), (12, .ifCond .eq 12, 3, 0, 0, 0), (15, .aload_n 0, 1, 0, 0, 0), (16, .iload_n 1, 1, 0, 0, 0), (17, .iload_n 2, 1, 0, 0, 0), (18, .invokevirtual 143, 3, 0, 151, 1002), (21, .goto 4, 3, 0, 0, 0), (24, .iconst (-1), 1, 0, 0, 0), (25, .ireturn, 1, 0, 0, 0)]
def vm_m154 : vm_M := (RX11, yX11_line_, cX11_line_, 3, (some .int), vm_k154)
def vm_k155 : List vm_I := [(0, .iload_n 1, 1, 0, 0, 0), (1, .i2l, 1, 0, 0, 0), (2, .lconst 0, 1, 0, 0, 0), (3, .ldc2_w 153, 3, 8, 0, 0), (6, .invokestatic 86, 3, 1, 128, 3), (9, .ifCond .eq 19, 3, 0, 0, 0), (12, .aload_n 0, 1, 0, 0, 0), (13, .aload_n 0, 1, 0, 0, 0), (14, .getfield 16, 3, 10, 2, 0), (17, .bipush 32, 2, 0, 0, 0), (19, .iaload, 1, 0, 0, 0), (20, .iload_n 1, 1, 0, 0, 0), (21, .iadd, 1, 0, 0, 0), (22, .invokevirtual 155, 3, 0, 153, 1001), (25, .goto 4, 3, 0, 0, 0), (28, .iconst (-1), 1, 0, 0, 0), (29, .ireturn, 1, 0, 0, 0)]
def vm_m155 : vm_M := (RX11, yX11_rain, cX11_rain, 2, (some .int), vm_k155)
def vm_k156 : List vm_I := [(0, .aload_n 0, 1, 0, 0, 0), (1, .iload_n 1, 1, 0, 0, 0), (2, .invokevirtual 159, 3, 0, 150, 1001), (5, .ifCond .ne 5, 3, 0, 0, 0), (8, .iconst (-1), 1, 0, 0, 0), (9, .ireturn, 1, 0, 0, 0), (10, .iload_n 2, 1, 0, 0, 0), (11, .tableswitch 99 0 7 #[45, 54, 63, 63, 63, 63, 79, 89], 45, 0, 0, 0), (56, .aload_n 0, 1, 0, 0, 0), (57, .getfield 16, 3, 10, 2, 0), (60, .iconst 0, 1, 0, 0, 0), (61, .iload_n 1, 1, 0, 0, 0), (62, .iadd, 1, 0, 0, 0), (63, .iaload, 1, 0, 0, 0), (64, .ireturn, 1, 0, 0, 0), (65, .aload_n 0, 1, 0, 0, 0), (66, .getfield 16, 3, 10, 2, 0), (69, .iconst 4, 1, 0, 0, 0), (70, .iload_n 1, 1, 0, 0, 0), (71, .iadd, 1, 0, 0, 0), (72, .iaload, 1, 0, 0, 0), (73, .ireturn, 1, 0, 0, 0), (74, .aload_n 0, 1, 0, 0, 0), (75, .getfield 16, 3, 10, 2, 0), (78, .bipush 8, 2, 0, 0, 0), (80, .iconst 4, 1, 0, 0, 0), (81, .iload_n 1, 1, 0, 0, 0), (82, .imul, 1, 0, 0, 0), (83, .iadd, 1, 0, 0, 0), (84, .iload_n 2, 1, 0, 0, 0), (85, .iadd, 1, 0, 0, 0), (86, .iconst 2, 1, 0, 0, 0), (87, .isub, 1, 0, 0, 0), (88, .iaload, 1, 0, 0, 0), (89, .ireturn, 1, 0, 0, 0), (90, .aload_n 0, 1, 0, 0, 0), (91, .getfield 16, 3, 10, 2, 0), (94, .bipush 24, 2, 0, 0, 0), (96, .iload_n 1, 1, 0, 0, 0), (97, .iadd, 1, 0, 0, 0), (98, .iaload, 1, 0, 0, 0), (99, .ireturn, 1, 0, 0, 0), (100, .aload_n 0, 1, 0, 0, 0), (101, .getfield 16, 3, 10, 2, 0), (104, .bipush 28, 2, 0, 0, 0), (106, .iload_n 1, 1, 0, 0, 0), (107, .iadd, 1, 0, 0, 0), (108, .iaload, 1, 0, 0, 0), (109, .ireturn, 1, 0, 0, 0), (110, .iconst (-1), 1, 0, 0, 0), (111, .ireturn, 1, 0, 0, 0)]
def vm_m156 : vm_M := (RX11, yX11_company_, cX11_company_, 3, (some .int), vm_k156)
def vm_k157 : List vm_I := [(0, .iload_n 0, 1, 0, 0, 0), (1, .iload_n 1, 1, 0, 0, 0), (2, .ifCond .ne 7, 3, 0, 0, 0), (5, .iconst 4, 1, 0, 0, 0), (6, .goto 24, 3, 0, 0, 0), (9, .iload_n 1, 1, 0, 0, 0), (10, .iconst 1, 1, 0, 0, 0), (11, .if_icmp .ne 8, 3, 0, 0, 0), (14, .bipush 6, 2, 0, 0, 0), (16, .goto 14, 3, 0, 0, 0), (19, .iload_n 1, 1, 0, 0, 0), (20, .iconst 2, 1, 0, 0, 0), (21, .if_icmp .ne 8, 3, 0, 0, 0), (24, .bipush (-2), 2, 0, 0, 0), (26, .goto 4, 3, 0, 0, 0), (29, .iconst 1, 1, 0, 0, 0), (30, .iadd, 1, 0, 0, 0), (31, .istore_n 2, 1, 0, 0, 0), (32, .iload_n 2, 1, 0, 0, 0), (33, .bipush 20, 2, 0, 0, 0), (35, .if_icmp .le 8, 3, 0, 0, 0), (38, .bipush 20, 2, 0, 0, 0), (40, .goto 12, 3, 0, 0, 0), (43, .iload_n 2, 1, 0, 0, 0), (44, .ifCond .ge 7, 3, 0, 0, 0), (47, .iconst 0, 1, 0, 0, 0), (48, .goto 4, 3, 0, 0, 0), (51, .iload_n 2, 1, 0, 0, 0), (52, .ireturn, 1, 0, 0, 0)]
def vm_m157 : vm_M := (RX11, yX11_hotter, cX11_hotter, 3, (some .int), vm_k157)
def vm_k158 : List vm_I := [(0, .iload_n 0, 1, 0, 0, 0), (1, .iconst 1, 1, 0, 0, 0), (2, .isub, 1, 0, 0, 0), (3, .iload_n 1, 1, 0, 0, 0), (4, .iconst 3, 1, 0, 0, 0), (5, .if_icmp .ne 7, 3, 0, 0, 0), (8, .iconst 0, 1, 0, 0, 0), (9, .goto 4, 3, 0, 0, 0), (12, .iload_n 2, 1, 0, 0, 0), (13, .isub, 1, 0, 0, 0), (14, .iload_n 1, 1, 0, 0, 0), (15, .iconst 1, 1, 0, 0, 0), (16, .if_icmp .ne 7, 3, 0, 0, 0), (19, .iconst 1, 1, 0, 0, 0), (20, .goto 4, 3, 0, 0, 0), (23, .iconst 0, 1, 0, 0, 0), (24, .isub, 1, 0, 0, 0), (25, .istore_n 3, 1, 0, 0, 0), (26, .iload_n 3, 1, 0, 0, 0), (27, .ifCond .ge 7, 3, 0, 0, 0), (30, .iconst 0, 1, 0, 0, 0), (31, .goto 4, 3, 0, 0, 0), (34, .iload_n 3, 1, 0, 0, 0), (35, .ireturn, 1, 0, 0, 0)]
def vm_m158 : vm_M := (RX11, yX11_cooler, cX11_cooler, 4, (some .int), vm_k158)
def vm_k159 : List vm_I := [(0, .aload_n 0, 1, 0, 0, 0), (1, .getfield 16, 3, 10, 2, 0), (4, .iconst 0, 1, 0, 0, 0), (5, .iload_n 1, 1, 0, 0, 0), (6, .iadd, 1, 0, 0, 0), (7, .iaload, 1, 0, 0, 0), (8, .ifCond .le 7, 3, 0, 0, 0), (11, .iconst 1, 1, 0, 0, 0), (12, .goto 4, 3, 0, 0, 0), (15, .iconst 0, 1, 0, 0, 0), (16, .ireturn, 1, 0, 0, 0)]
def vm_m159 : vm_M := (RX11, yX11_isIn, cX11_isIn, 2, (some .boolean), vm_k159)
def vm_k160 : List vm_I := [(0, .aload_n 0, 1, 0, 0, 0), (1, .iconst 0, 1, 0, 0, 0), (2, .iload_n 1, 1, 0, 0, 0), (3, .iadd, 1, 0, 0, 0), (4, .iconst 0, 1, 0, 0, 0), (5, .iastore, 1, 0, 0, 0), (6, .aload_n 0, 1, 0, 0, 0), (7, .iconst 4, 1, 0, 0, 0), (8, .iload_n 1, 1, 0, 0, 0), (9, .iadd, 1, 0, 0, 0), (10, .bipush (-4), 2, 0, 0, 0), (12, .iastore, 1, 0, 0, 0), (13, .aload_n 0, 1, 0, 0, 0), (14, .bipush 24, 2, 0, 0, 0), (16, .iload_n 1, 1, 0, 0, 0), (17, .iadd, 1, 0, 0, 0), (18, .bipush (-4), 2, 0, 0, 0), (20, .iastore, 1, 0, 0, 0), (21, .return_, 1, 0, 0, 0)]
def vm_m160 : vm_M := (RX11, yX11_goesOut, cX11_goesOut, 2, none, vm_k160)
def vm_k161 : List vm_I := [(0, .aload_n 0, 1, 0, 0, 0), (1, .iconst 0, 1, 0, 0, 0), (2, .iload_n 1, 1, 0, 0, 0), (3, .iadd, 1, 0, 0, 0), (4, .iaload, 1, 0, 0, 0), (5, .ifCond .le 20, 3, 0, 0, 0), (8, .aload_n 0, 1, 0, 0, 0), (9, .bipush 8, 2, 0, 0, 0), (11, .iconst 4, 1, 0, 0, 0), (12, .iload_n 1, 1, 0, 0, 0), (13, .imul, 1, 0, 0, 0), (14, .iadd, 1, 0, 0, 0), (15, .iload_n 2, 1, 0, 0, 0), (16, .iadd, 1, 0, 0, 0), (17, .iaload, 1, 0, 0, 0), (18, .ifCond .le 7, 3, 0, 0, 0), (21, .iconst 1, 1, 0, 0, 0), (22, .goto 4, 3, 0, 0, 0), (25, .iconst 0, 1, 0, 0, 0), (26, .ireturn, 1, 0, 0, 0)]
def vm_m161 : vm_M := (RX11, yX11_mayPut, cX11_mayPut, 3, (some .boolean), vm_k161)
def vm_k162 : List vm_I := [(0, .aload_n 1, 1, 0, 0, 0), (1, .bipush 8, 2, 0, 0, 0), (3, .iconst 4, 1, 0, 0, 0), (4, .iload_n 2, 1, 0, 0, 0), (5, .imul, 1, 0, 0, 0), (6, .iadd, 1, 0, 0, 0), (7, .iload_n 3, 1, 0, 0, 0), (8, .iadd, 1, 0, 0, 0), (9, .dup2, 1, 0, 0, 0), (10, .iaload, 1, 0, 0, 0), (11, .iconst 1, 1, 0, 0, 0), (12, .isub, 1, 0, 0, 0), (13, .iastore, 1, 0, 0, 0), (14, .aload_n 1, 1, 0, 0, 0), (15, .iconst 0, 1, 0, 0, 0), (16, .iload_n 2, 1, 0, 0, 0), (17, .iadd, 1, 0, 0, 0), (18, .aload_n 1, 1, 0, 0, 0), (19, .iconst 0, 1, 0, 0, 0), (20, .iload_n 2, 1, 0, 0, 0), (21, .iadd, 1, 0, 0, 0), (22, .iaload, 1, 0, 0, 0), (23, .iload_n 3, 1, 0, 0, 0), (24, .invokestatic 162, 3, 1, 157, 2), (27, .iastore, 1, 0, 0, 0), (28, .aload_n 1, 1, 0, 0, 0), (29, .bipush 24, 2, 0, 0, 0), (31, .iload_n 2, 1, 0, 0, 0), (32, .iadd, 1, 0, 0, 0), (33, .iload_n 3, 1, 0, 0, 0), (34, .iastore, 1, 0, 0, 0), (35, .aload_n 1, 1, 0, 0, 0), (36, .iconst 0, 1, 0, 0, 0), (37, .iload_n 2, 1, 0, 0, 0), (38, .iadd, 1, 0, 0, 0), (39, .iaload, 1, 0, 0, 0), (40, .ifCond .ne 9, 3, 0, 0, 0), (43, .aload_n 1, 1, 0, 0, 0), (44, .iload_n 2, 1, 0, 0, 0), (45, .invokestatic 165, 3, 1, 160, 2), (48, .return_, 1, 0, 0, 0), (49, .aload_n 0, 1, 0, 0, 0), (50, .aload_n 1, 1, 0, 0, 0), (51, .iconst 4, 1, 0, 0, 0), (52, .iload_n 2, 1, 0, 0, 0), (53, .iadd, 1, 0, 0, 0), (54, .iaload, 1, 0, 0, 0), (55, .iload_n 3, 1, 0, 0, 0), (56, .invokevirtual 143, 3, 0, 151, 1002), (59, .istore 4, 2, 0, 0, 0), (61, .aload_n 1, 1, 0, 0, 0), (62, .iconst 4, 1, 0, 0, 0), (63, .iload_n 2, 1, 0, 0, 0), (64, .iadd, 1, 0, 0, 0), (65, .iload 4, 2, 0, 0, 0), (67, .bipush (-4), 2, 0, 0, 0), (69, .if_icmp .ne 11, 3, 0, 0, 0), (72, .aload_n 1, 1, 0, 0, 0), (73, .iconst 4, 1, 0, 0, 0), (74, .iload_n 2, 1, 0, 0, 0), (75, .iadd, 1, 0, 0, 0), (76, .iaload, 1, 0, 0, 0), (77, .goto 5, 3, 0, 0, 0), (80, .iload 4, 2, 0, 0, 0), (82, .iastore, 1, 0, 0, 0), (83, .aload_n 1, 1, 0, 0, 0), (84, .bipush 28, 2, 0, 0, 0), (86, .iload_n 2, 1, 0, 0, 0), (87, .iadd, 1, 0, 0, 0), (88, .dup2, 1, 0, 0, 0), (89, .iaload, 1, 0, 0, 0), (90, .iload 4, 2, 0, 0, 0), (92, .bipush (-4), 2, 0, 0, 0), (94, .if_icmp .ne 7, 3, 0, 0, 0), (97, .iconst 0, 1, 0, 0, 0), (98, .goto 4, 3, 0, 0, 0), (101, .iconst 1, 1, 0, 0, 0), (102, .iadd, 1, 0, 0, 0), (103, .iastore, 1, 0, 0, 0), (104, .return_, 1, 0, 0, 0)]
def vm_m162 : vm_M := (RX11, yX11_puts, cX11_puts, 5, none, vm_k162)
def vm_k163 : List vm_I := [(0, .aload_n 0, 1, 0, 0, 0), (1, .aload_n 1, 1, 0, 0, 0), (2, .bipush 32, 2, 0, 0, 0), (4, .iaload, 1, 0, 0, 0), (5, .invokevirtual 155, 3, 0, 153, 1001), (8, .istore_n 2, 1, 0, 0, 0), (9, .iconst 0, 1, 0, 0, 0), (10, .istore_n 3, 1, 0, 0, 0), (11, .iload_n 3, 1, 0, 0, 0), (12, .aload_n 0, 1, 0, 0, 0), (13, .getfield 7, 3, 10, 0, 0), (16, .iconst 2, 1, 0, 0, 0), (17, .iaload, 1, 0, 0, 0), (18, .if_icmp .ge 50, 3, 0, 0, 0), (21, .aload_n 1, 1, 0, 0, 0), (22, .iconst 0, 1, 0, 0, 0), (23, .iload_n 3, 1, 0, 0, 0), (24, .iadd, 1, 0, 0, 0), (25, .iaload, 1, 0, 0, 0), (26, .ifCond .le 36, 3, 0, 0, 0), (29, .aload_n 1, 1, 0, 0, 0), (30, .iconst 0, 1, 0, 0, 0), (31, .iload_n 3, 1, 0, 0, 0), (32, .iadd, 1, 0, 0, 0), (33, .aload_n 1, 1, 0, 0, 0), (34, .iconst 0, 1, 0, 0, 0), (35, .iload_n 3, 1, 0, 0, 0), (36, .iadd, 1, 0, 0, 0), (37, .iaload, 1, 0, 0, 0), (38, .aload_n 1, 1, 0, 0, 0), (39, .bipush 24, 2, 0, 0, 0), (41, .iload_n 3, 1, 0, 0, 0), (42, .iadd, 1, 0, 0, 0), (43, .iaload, 1, 0, 0, 0), (44, .iload_n 2, 1, 0, 0, 0), (45, .invokestatic 168, 3, 1, 158, 3), (48, .iastore, 1, 0, 0, 0), (49, .aload_n 1, 1, 0, 0, 0), (50, .iconst 0, 1, 0, 0, 0), (51, .iload_n 3, 1, 0, 0, 0), (52, .iadd, 1, 0, 0, 0), (53, .iaload, 1, 0, 0, 0), (54, .ifCond .ne 8, 3, 0, 0, 0), (57, .aload_n 1, 1, 0, 0, 0), (58, .iload_n 3, 1, 0, 0, 0), (59, .invokestatic 165, 3, 1, 160, 2), (62, .iinc 3 1, 3, 0, 0, 0), (65, .goto (-54), 3, 0, 0, 0), (68, .aload_n 1, 1, 0, 0, 0), (69, .bipush 32, 2, 0, 0, 0), (71, .dup2, 1, 0, 0, 0), (72, .iaload, 1, 0, 0, 0), (73, .iconst 1, 1, 0, 0, 0), (74, .iadd, 1, 0, 0, 0), (75, .iastore, 1, 0, 0, 0), (76, .return_, 1, 0, 0, 0)]
def vm_m163 : vm_M := (RX11, yX11_hourGoes, cX11_hourGoes, 4, none, vm_k163)
def vm_k164 : List vm_I := [(0, .iconst 0, 1, 0, 0, 0), (1, .istore_n 2, 1, 0, 0, 0), (2, .iconst 0, 1, 0, 0, 0), (3, .istore_n 3, 1, 0, 0, 0), (4, .iload_n 3, 1, 0, 0, 0), (5, .iconst 4, 1, 0, 0, 0), (6, .if_icmp .ge 25, 3, 0, 0, 0), (9, .iload_n 2, 1, 0, 0, 0), (10, .aload_n 1, 1, 0, 0, 0), (11, .iconst 0, 1, 0, 0, 0), (12, .iload_n 3, 1, 0, 0, 0), (13, .iadd, 1, 0, 0, 0), (14, .iaload, 1, 0, 0, 0), (15, .ifCond .le 7, 3, 0, 0, 0), (18, .iconst 1, 1, 0, 0, 0), (19, .goto 4, 3, 0, 0, 0), (22, .iconst 0, 1, 0, 0, 0), (23, .iadd, 1, 0, 0, 0), (24, .istore_n 2, 1, 0, 0, 0), (25, .iinc 3 1, 3, 0, 0, 0), (28, .goto (-24), 3, 0, 0, 0), (31, .iload_n 2, 1, 0, 0, 0), (32, .ireturn, 1, 0, 0, 0)]
def vm_m164 : vm_M := (RX11, yX11_insOf, cX11_insOf, 4, (some .int), vm_k164)
def vm_k165 : List vm_I := [(0, .aload_n 0, 1, 0, 0, 0), (1, .getfield 72, 3, 10, 5, 0), (4, .bipush 8, 2, 0, 0, 0), (6, .if_icmp .ne 43, 3, 0, 0, 0), (9, .iconst 0, 1, 0, 0, 0), (10, .istore_n 1, 1, 0, 0, 0), (11, .iload_n 1, 1, 0, 0, 0), (12, .sipush 231, 3, 0, 0, 0), (15, .if_icmp .ge 24, 3, 0, 0, 0), (18, .aload_n 0, 1, 0, 0, 0), (19, .getfield 22, 3, 10, 4, 0), (22, .iload_n 1, 1, 0, 0, 0), (23, .aload_n 0, 1, 0, 0, 0), (24, .getfield 22, 3, 10, 4, 0), (27, .iload_n 1, 1, 0, 0, 0), (28, .bipush 33, 2, 0, 0, 0), (30, .iadd, 1, 0, 0, 0), (31, .iaload, 1, 0, 0, 0), (32, .iastore, 1, 0, 0, 0), (33, .iinc 1 1, 3, 0, 0, 0), (36, .goto (-25), 3, 0, 0, 0), (39, .aload_n 0, 1, 0, 0, 0), (40, .dup, 1, 0, 0, 0), (41, .getfield 72, 3, 10, 5, 0), (44, .iconst 1, 1, 0, 0, 0), (45, .isub, 1, 0, 0, 0), (46, .putfield 72, 3, 10, 5, 0), (49, .aload_n 0, 1, 0, 0, 0), (50, .getfield 16, 3, 10, 2, 0), (53, .iconst 0, 1, 0, 0, 0), (54, .aload_n 0, 1, 0, 0, 0), (55, .getfield 22, 3, 10, 4, 0), (58, .bipush 33, 2, 0, 0, 0), (60, .aload_n 0, 1, 0, 0, 0), (61, .getfield 72, 3, 10, 5, 0), (64, .imul, 1, 0, 0, 0), (65, .bipush 33, 2, 0, 0, 0), (67, .invokestatic 137, 3, 1, 130, 5), (70, .aload_n 0, 1, 0, 0, 0), (71, .dup, 1, 0, 0, 0), (72, .getfield 72, 3, 10, 5, 0), (75, .iconst 1, 1, 0, 0, 0), (76, .iadd, 1, 0, 0, 0), (77, .putfield 72, 3, 10, 5, 0), (80, .return_, 1, 0, 0, 0)]
def vm_m165 : vm_M := (RX11, yX11_remember, cX11_remember, 2, none, vm_k165)
def vm_k166 : List vm_I := [(0, .aload_n 0, 1, 0, 0, 0), (1, .iload_n 1, 1, 0, 0, 0), (2, .invokevirtual 159, 3, 0, 150, 1001), (5, .ifCond .eq 10, 3, 0, 0, 0), (8, .iload_n 2, 1, 0, 0, 0), (9, .invokestatic 150, 3, 1, 149, 1), (12, .ifCond .ne 5, 3, 0, 0, 0), (15, .iconst (-1), 1, 0, 0, 0), (16, .ireturn, 1, 0, 0, 0), (17, .aload_n 0, 1, 0, 0, 0), (18, .getfield 16, 3, 10, 2, 0), (21, .iload_n 1, 1, 0, 0, 0), (22, .iload_n 2, 1, 0, 0, 0), (23, .invokestatic 172, 3, 1, 161, 3), (26, .ifCond .ne 6, 3, 0, 0, 0), (29, .bipush (-2), 2, 0, 0, 0), (31, .ireturn, 1, 0, 0, 0), (32, .aload_n 0, 1, 0, 0, 0), (33, .invokevirtual 176, 3, 0, 165, 1000), (36, .aload_n 0, 1, 0, 0, 0), (37, .aload_n 0, 1, 0, 0, 0), (38, .getfield 16, 3, 10, 2, 0), (41, .iload_n 1, 1, 0, 0, 0), (42, .iload_n 2, 1, 0, 0, 0), (43, .invokevirtual 179, 3, 0, 162, 1003), (46, .aload_n 0, 1, 0, 0, 0), (47, .getfield 16, 3, 10, 2, 0), (50, .iconst 4, 1, 0, 0, 0), (51, .iload_n 1, 1, 0, 0, 0), (52, .iadd, 1, 0, 0, 0), (53, .iaload, 1, 0, 0, 0), (54, .ireturn, 1, 0, 0, 0)]
def vm_m166 : vm_M := (RX11, yX11_put, cX11_put, 3, (some .int), vm_k166)
def vm_k167 : List vm_I := [(0, .iload_n 1, 1, 0, 0, 0), (1, .i2l, 1, 0, 0, 0), (2, .lconst 1, 1, 0, 0, 0), (3, .ldc2_w 183, 3, 9, 0, 0), (6, .invokestatic 86, 3, 1, 128, 3), (9, .ifCond .ne 5, 3, 0, 0, 0), (12, .iconst (-1), 1, 0, 0, 0), (13, .ireturn, 1, 0, 0, 0), (14, .aload_n 0, 1, 0, 0, 0), (15, .invokevirtual 176, 3, 0, 165, 1000), (18, .iconst 0, 1, 0, 0, 0), (19, .istore_n 2, 1, 0, 0, 0), (20, .iload_n 2, 1, 0, 0, 0), (21, .iload_n 1, 1, 0, 0, 0), (22, .if_icmp .ge 17, 3, 0, 0, 0), (25, .aload_n 0, 1, 0, 0, 0), (26, .aload_n 0, 1, 0, 0, 0), (27, .getfield 16, 3, 10, 2, 0), (30, .invokevirtual 185, 3, 0, 163, 1001), (33, .iinc 2 1, 3, 0, 0, 0), (36, .goto (-16), 3, 0, 0, 0), (39, .aload_n 0, 1, 0, 0, 0), (40, .aload_n 0, 1, 0, 0, 0), (41, .getfield 16, 3, 10, 2, 0), (44, .invokevirtual 189, 3, 0, 164, 1001), (47, .ireturn, 1, 0, 0, 0)]
def vm_m167 : vm_M := (RX11, yX11_pass, cX11_pass, 3, (some .int), vm_k167)
def vm_k168 : List vm_I := [(0, .iload_n 1, 1, 0, 0, 0), (1, .iload_n 2, 1, 0, 0, 0), (2, .if_icmp .eq 24, 3, 0, 0, 0), (5, .aload_n 0, 1, 0, 0, 0), (6, .iconst 0, 1, 0, 0, 0), (7, .iload_n 1, 1, 0, 0, 0), (8, .iadd, 1, 0, 0, 0), (9, .iaload, 1, 0, 0, 0), (10, .ifCond .ne 16, 3, 0, 0, 0), (13, .aload_n 0, 1, 0, 0, 0), (14, .iconst 0, 1, 0, 0, 0), (15, .iload_n 2, 1, 0, 0, 0), (16, .iadd, 1, 0, 0, 0), (17, .iaload, 1, 0, 0, 0), (18, .iconst 3, 1, 0, 0, 0), (19, .if_icmp .le 7, 3, 0, 0, 0), (22, .iconst 1, 1, 0, 0, 0), (23, .goto 4, 3, 0, 0, 0), (26, .iconst 0, 1, 0, 0, 0), (27, .ireturn, 1, 0, 0, 0)]
def vm_m168 : vm_M := (RX11, yX11_mayLight, cX11_mayLight, 3, (some .boolean), vm_k168)
def vm_k169 : List vm_I := [(0, .aload_n 0, 1, 0, 0, 0), (1, .iconst 0, 1, 0, 0, 0), (2, .iload_n 2, 1, 0, 0, 0), (3, .iadd, 1, 0, 0, 0), (4, .dup2, 1, 0, 0, 0), (5, .iaload, 1, 0, 0, 0), (6, .iconst 1, 1, 0, 0, 0), (7, .isub, 1, 0, 0, 0), (8, .iastore, 1, 0, 0, 0), (9, .aload_n 0, 1, 0, 0, 0), (10, .iconst 0, 1, 0, 0, 0), (11, .iload_n 1, 1, 0, 0, 0), (12, .iadd, 1, 0, 0, 0), (13, .iconst 3, 1, 0, 0, 0), (14, .iastore, 1, 0, 0, 0), (15, .aload_n 0, 1, 0, 0, 0), (16, .iconst 4, 1, 0, 0, 0), (17, .iload_n 1, 1, 0, 0, 0), (18, .iadd, 1, 0, 0, 0), (19, .aload_n 0, 1, 0, 0, 0), (20, .iconst 4, 1, 0, 0, 0), (21, .iload_n 2, 1, 0, 0, 0), (22, .iadd, 1, 0, 0, 0), (23, .iaload, 1, 0, 0, 0), (24, .iastore, 1, 0, 0, 0), (25, .aload_n 0, 1, 0, 0, 0), (26, .bipush 24, 2, 0, 0, 0), (28, .iload_n 1, 1, 0, 0, 0), (29, .iadd, 1, 0, 0, 0), (30, .bipush (-4), 2, 0, 0, 0), (32, .iastore, 1, 0, 0, 0), (33, .return_, 1, 0, 0, 0)]
def vm_m169 : vm_M := (RX11, yX11_lights, cX11_lights, 3, none, vm_k169)
def vm_k170 : List vm_I := [(0, .aload_n 0, 1, 0, 0, 0), (1, .iload_n 1, 1, 0, 0, 0), (2, .invokevirtual 159, 3, 0, 150, 1001), (5, .ifCond .eq 16, 3, 0, 0, 0), (8, .aload_n 0, 1, 0, 0, 0), (9, .iload_n 2, 1, 0, 0, 0), (10, .invokevirtual 159, 3, 0, 150, 1001), (13, .ifCond .eq 8, 3, 0, 0, 0), (16, .iload_n 1, 1, 0, 0, 0), (17, .iload_n 2, 1, 0, 0, 0), (18, .if_icmp .ne 5, 3, 0, 0, 0), (21, .iconst (-1), 1, 0, 0, 0), (22, .ireturn, 1, 0, 0, 0), (23, .aload_n 0, 1, 0, 0, 0), (24, .getfield 16, 3, 10, 2, 0), (27, .iload_n 1, 1, 0, 0, 0), (28, .iload_n 2, 1, 0, 0, 0), (29, .invokestatic 193, 3, 1, 168, 3), (32, .ifCond .ne 6, 3, 0, 0, 0), (35, .bipush (-2), 2, 0, 0, 0), (37, .ireturn, 1, 0, 0, 0), (38, .aload_n 0, 1, 0, 0, 0), (39, .invokevirtual 176, 3, 0, 165, 1000), (42, .aload_n 0, 1, 0, 0, 0), (43, .getfield 16, 3, 10, 2, 0), (46, .iload_n 1, 1, 0, 0, 0), (47, .iload_n 2, 1, 0, 0, 0), (48, .invokestatic 196, 3, 1, 169, 3), (51, .aload_n 0, 1, 0, 0, 0), (52, .getfield 16, 3, 10, 2, 0), (55, .iconst 4, 1, 0, 0, 0), (56, .iload_n 1, 1, 0, 0, 0), (57, .iadd, 1, 0, 0, 0), (58, .iaload, 1, 0, 0, 0), (59, .ireturn, 1, 0, 0, 0)]
def vm_m170 : vm_M := (RX11, yX11_light, cX11_light, 3, (some .int), vm_k170)
def vm_k171 : List vm_I := [(0, .aload_n 0, 1, 0, 0, 0), (1, .iload_n 1, 1, 0, 0, 0), (2, .invokevirtual 159, 3, 0, 150, 1001), (5, .ifCond .eq 16, 3, 0, 0, 0), (8, .aload_n 0, 1, 0, 0, 0), (9, .iload_n 2, 1, 0, 0, 0), (10, .invokevirtual 159, 3, 0, 150, 1001), (13, .ifCond .eq 8, 3, 0, 0, 0), (16, .iload_n 1, 1, 0, 0, 0), (17, .iload_n 2, 1, 0, 0, 0), (18, .if_icmp .ne 5, 3, 0, 0, 0), (21, .iconst (-1), 1, 0, 0, 0), (22, .ireturn, 1, 0, 0, 0), (23, .aload_n 0, 1, 0, 0, 0), (24, .iload_n 1, 1, 0, 0, 0), (25, .invokevirtual 199, 3, 0, 159, 1001), (28, .ifCond .eq 11, 3, 0, 0, 0), (31, .aload_n 0, 1, 0, 0, 0), (32, .iload_n 2, 1, 0, 0, 0), (33, .invokevirtual 199, 3, 0, 159, 1001), (36, .ifCond .ne 6, 3, 0, 0, 0), (39, .bipush (-2), 2, 0, 0, 0), (41, .ireturn, 1, 0, 0, 0), (42, .aload_n 0, 1, 0, 0, 0), (43, .invokevirtual 176, 3, 0, 165, 1000), (46, .aload_n 0, 1, 0, 0, 0), (47, .getfield 16, 3, 10, 2, 0), (50, .iconst 0, 1, 0, 0, 0), (51, .iload_n 1, 1, 0, 0, 0), (52, .iadd, 1, 0, 0, 0), (53, .iaload, 1, 0, 0, 0), (54, .aload_n 0, 1, 0, 0, 0), (55, .getfield 16, 3, 10, 2, 0), (58, .iconst 0, 1, 0, 0, 0), (59, .iload_n 2, 1, 0, 0, 0), (60, .iadd, 1, 0, 0, 0), (61, .iaload, 1, 0, 0, 0), (62, .iadd, 1, 0, 0, 0), (63, .istore_n 3, 1, 0, 0, 0), (64, .aload_n 0, 1, 0, 0, 0), (65, .getfield 16, 3, 10, 2, 0), (68, .iconst 0, 1, 0, 0, 0), (69, .iload_n 1, 1, 0, 0, 0), (70, .iadd, 1, 0, 0, 0), (71, .iload_n 3, 1, 0, 0, 0), (72, .bipush 20, 2, 0, 0, 0), (74, .if_icmp .le 8, 3, 0, 0, 0), (77, .bipush 20, 2, 0, 0, 0), (79, .goto 4, 3, 0, 0, 0), (82, .iload_n 3, 1, 0, 0, 0), (83, .iastore, 1, 0, 0, 0), (84, .aload_n 0, 1, 0, 0, 0), (85, .getfield 16, 3, 10, 2, 0), (88, .iconst 4, 1, 0, 0, 0), (89, .iload_n 1, 1, 0, 0, 0), (90, .iadd, 1, 0, 0, 0), (91, .aload_n 0, 1, 0, 0, 0), (92, .getfield 16, 3, 10, 2, 0), (95, .iconst 4, 1, 0, 0, 0), (96, .iload_n 1, 1, 0, 0, 0), (97, .iadd, 1, 0, 0, 0), (98, .iaload, 1, 0, 0, 0), (99, .aload_n 0, 1, 0, 0, 0), (100, .getfield 16, 3, 10, 2, 0), (103, .iconst 4, 1, 0, 0, 0), (104, .iload_n 2, 1, 0, 0, 0), (105, .iadd, 1, 0, 0, 0), (106, .iaload, 1, 0, 0, 0), (107, .if_icmp .ge 14, 3, 0, 0, 0), (110, .aload_n 0, 1, 0, 0, 0), (111, .getfield 16, 3, 10, 2, 0), (114, .iconst 4, 1, 0, 0, 0), (115, .iload_n 1, 1, 0, 0, 0), (116, .iadd, 1, 0, 0, 0), (117, .iaload, 1, 0, 0, 0), (118, .goto 11, 3, 0, 0, 0), (121, .aload_n 0, 1, 0, 0, 0), (122, .getfield 16, 3, 10, 2, 0), (125, .iconst 4, 1, 0, 0, 0), (126, .iload_n 2, 1, 0, 0, 0), (127, .iadd, 1, 0, 0, 0), (128, .iaload, 1, 0, 0, 0), (129, .iastore, 1, 0, 0, 0), (130, .aload_n 0, 1, 0, 0, 0), (131, .getfield 16, 3, 10, 2, 0), (134, .iload_n 2, 1, 0, 0, 0), (135, .invokestatic 165, 3, 1, 160, 2), (138, .iconst 0, 1, 0, 0, 0), (139, .istore 4, 2, 0, 0, 0), (141, .iload 4, 2, 0, 0, 0), (143, .iconst 4, 1, 0, 0, 0), (144, .if_icmp .ge 83, 3, 0, 0, 0), (147, .aload_n 0, 1, 0, 0, 0), (148, .getfield 16, 3, 10, 2, 0), (151, .bipush 8, 2, 0, 0, 0), (153, .iconst 4, 1, 0, 0, 0), (154, .iload_n 1, 1, 0, 0, 0), (155, .imul, 1, 0, 0, 0), (156, .iadd, 1, 0, 0, 0), (157, .iload 4, 2, 0, 0, 0), (159, .iadd, 1, 0, 0, 0), (160, .iaload, 1, 0, 0, 0), (161, .aload_n 0, 1, 0, 0, 0), (162, .getfield 16, 3, 10, 2, 0), (165, .bipush 8, 2, 0, 0, 0), (167, .iconst 4, 1, 0, 0, 0), (168, .iload_n 2, 1, 0, 0, 0), (169, .imul, 1, 0, 0, 0), (170, .iadd, 1, 0, 0, 0), (171, .iload 4, 2, 0, 0, 0), (173, .iadd, 1, 0, 0, 0), (174, .iaload, 1, 0, 0, 0), (175, .iadd, 1, 0, 0, 0), (176, .istore 5, 2, 0, 0, 0), (178, .aload_n 0, 1, 0, 0, 0), (179, .getfield 16, 3, 10, 2, 0), (182, .bipush 8, 2, 0, 0, 0), (184, .iconst 4, 1, 0, 0, 0), (185, .iload_n 1, 1, 0, 0, 0), (186, .imul, 1, 0, 0, 0), (187, .iadd, 1, 0, 0, 0), (188, .iload 4, 2, 0, 0, 0), (190, .iadd, 1, 0, 0, 0), (191, .iload 5, 2, 0, 0, 0), (193, .bipush 99, 2, 0, 0, 0), (195, .if_icmp .le 8, 3, 0, 0, 0), (198, .bipush 99, 2, 0, 0, 0), (200, .goto 5, 3, 0, 0, 0), (203, .iload 5, 2, 0, 0, 0), (205, .iastore, 1, 0, 0, 0), (206, .aload_n 0, 1, 0, 0, 0), (207, .getfield 16, 3, 10, 2, 0), (210, .bipush 8, 2, 0, 0, 0), (212, .iconst 4, 1, 0, 0, 0), (213, .iload_n 2, 1, 0, 0, 0), (214, .imul, 1, 0, 0, 0), (215, .iadd, 1, 0, 0, 0), (216, .iload 4, 2, 0, 0, 0), (218, .iadd, 1, 0, 0, 0), (219, .iconst 0, 1, 0, 0, 0), (220, .iastore, 1, 0, 0, 0), (221, .iinc 4 1, 3, 0, 0, 0), (224, .goto (-83), 3, 0, 0, 0), (227, .aload_n 0, 1, 0, 0, 0), (228, .getfield 16, 3, 10, 2, 0), (231, .iconst 4, 1, 0, 0, 0), (232, .iload_n 1, 1, 0, 0, 0), (233, .iadd, 1, 0, 0, 0), (234, .iaload, 1, 0, 0, 0), (235, .ireturn, 1, 0, 0, 0)]
def vm_m171 : vm_M := (RX11, yX11_join, cX11_join, 6, (some .int), vm_k171)
def vm_k172 : List vm_I := [(0, .aload_n 0, 1, 0, 0, 0), (1, .getfield 16, 3, 10, 2, 0), (4, .bipush 8, 2, 0, 0, 0), (6, .iconst 4, 1, 0, 0, 0), (7, .iload_n 1, 1, 0, 0, 0), (8, .imul, 1, 0, 0, 0), (9, .iadd, 1, 0, 0, 0), (10, .iload_n 3, 1, 0, 0, 0), (11, .iadd, 1, 0, 0, 0), (12, .iaload, 1, 0, 0, 0), (13, .ifCond .le 25, 3, 0, 0, 0), (16, .aload_n 0, 1, 0, 0, 0), (17, .getfield 16, 3, 10, 2, 0), (20, .bipush 8, 2, 0, 0, 0), (22, .iconst 4, 1, 0, 0, 0), (23, .iload_n 2, 1, 0, 0, 0), (24, .imul, 1, 0, 0, 0), (25, .iadd, 1, 0, 0, 0), (26, .iload_n 3, 1, 0, 0, 0), (27, .iadd, 1, 0, 0, 0), (28, .iaload, 1, 0, 0, 0), (29, .bipush 99, 2, 0, 0, 0), (31, .if_icmp .ge 7, 3, 0, 0, 0), (34, .iconst 1, 1, 0, 0, 0), (35, .goto 4, 3, 0, 0, 0), (38, .iconst 0, 1, 0, 0, 0), (39, .ireturn, 1, 0, 0, 0)]
def vm_m172 : vm_M := (RX11, yX11_mayHand, cX11_mayHand, 4, (some .boolean), vm_k172)
def vm_k173 : List vm_I := [(0, .aload_n 0, 1, 0, 0, 0), (1, .iload_n 1, 1, 0, 0, 0), (2, .invokevirtual 159, 3, 0, 150, 1001), (5, .ifCond .eq 23, 3, 0, 0, 0), (8, .aload_n 0, 1, 0, 0, 0), (9, .iload_n 2, 1, 0, 0, 0), (10, .invokevirtual 159, 3, 0, 150, 1001), (13, .ifCond .eq 15, 3, 0, 0, 0), (16, .iload_n 1, 1, 0, 0, 0), (17, .iload_n 2, 1, 0, 0, 0), (18, .if_icmp .eq 10, 3, 0, 0, 0), (21, .iload_n 3, 1, 0, 0, 0), (22, .invokestatic 150, 3, 1, 149, 1), (25, .ifCond .ne 5, 3, 0, 0, 0), (28, .iconst (-1), 1, 0, 0, 0), (29, .ireturn, 1, 0, 0, 0), (30, .aload_n 0, 1, 0, 0, 0), (31, .iload_n 1, 1, 0, 0, 0), (32, .iload_n 2, 1, 0, 0, 0), (33, .iload_n 3, 1, 0, 0, 0), (34, .invokevirtual 202, 3, 0, 172, 1003), (37, .ifCond .ne 6, 3, 0, 0, 0), (40, .bipush (-2), 2, 0, 0, 0), (42, .ireturn, 1, 0, 0, 0), (43, .aload_n 0, 1, 0, 0, 0), (44, .invokevirtual 176, 3, 0, 165, 1000), (47, .aload_n 0, 1, 0, 0, 0), (48, .getfield 16, 3, 10, 2, 0), (51, .bipush 8, 2, 0, 0, 0), (53, .iconst 4, 1, 0, 0, 0), (54, .iload_n 1, 1, 0, 0, 0), (55, .imul, 1, 0, 0, 0), (56, .iadd, 1, 0, 0, 0), (57, .iload_n 3, 1, 0, 0, 0), (58, .iadd, 1, 0, 0, 0), (59, .dup2, 1, 0, 0, 0), (60, .iaload, 1, 0, 0, 0), (61, .iconst 1, 1, 0, 0, 0), (62, .isub, 1, 0, 0, 0), (63, .iastore, 1, 0, 0, 0), (64, .aload_n 0, 1, 0, 0, 0), (65, .getfield 16, 3, 10, 2, 0), (68, .bipush 8, 2, 0, 0, 0), (70, .iconst 4, 1, 0, 0, 0), (71, .iload_n 2, 1, 0, 0, 0), (72, .imul, 1, 0, 0, 0), (73, .iadd, 1, 0, 0, 0), (74, .iload_n 3, 1, 0, 0, 0), (75, .iadd, 1, 0, 0, 0), (76, .dup2, 1, 0, 0, 0), (77, .iaload, 1, 0, 0, 0), (78, .iconst 1, 1, 0, 0, 0), (79, .iadd, 1, 0, 0, 0), (80, .iastore, 1, 0, 0, 0), (81, .aload_n 0, 1, 0, 0, 0), (82, .getfield 16, 3, 10, 2, 0), (85, .bipush 8, 2, 0, 0, 0), (87, .iconst 4, 1, 0, 0, 0), (88, .iload_n 2, 1, 0, 0, 0), (89, .imul, 1, 0, 0, 0), (90, .iadd, 1, 0, 0, 0), (91, .iload_n 3, 1, 0, 0, 0), (92, .iadd, 1, 0, 0, 0), (93, .iaload, 1, 0, 0, 0), (94, .ireturn, 1, 0, 0, 0)]
def vm_m173 : vm_M := (RX11, yX11_hand, cX11_hand, 4, (some .int), vm_k173)
def vm_k174 : List vm_I := [(0, .aload_n 0, 1, 0, 0, 0), (1, .getfield 72, 3, 10, 5, 0), (4, .ifCond .ne 6, 3, 0, 0, 0), (7, .bipush (-2), 2, 0, 0, 0), (9, .ireturn, 1, 0, 0, 0), (10, .aload_n 0, 1, 0, 0, 0), (11, .dup, 1, 0, 0, 0), (12, .getfield 72, 3, 10, 5, 0), (15, .iconst 1, 1, 0, 0, 0), (16, .isub, 1, 0, 0, 0), (17, .putfield 72, 3, 10, 5, 0), (20, .aload_n 0, 1, 0, 0, 0), (21, .getfield 22, 3, 10, 4, 0), (24, .bipush 33, 2, 0, 0, 0), (26, .aload_n 0, 1, 0, 0, 0), (27, .getfield 72, 3, 10, 5, 0), (30, .imul, 1, 0, 0, 0), (31, .aload_n 0, 1, 0, 0, 0), (32, .getfield 16, 3, 10, 2, 0), (35, .iconst 0, 1, 0, 0, 0), (36, .bipush 33, 2, 0, 0, 0), (38, .invokestatic 137, 3, 1, 130, 5), (41, .aload_n 0, 1, 0, 0, 0), (42, .getfield 72, 3, 10, 5, 0), (45, .ireturn, 1, 0, 0, 0)]
def vm_m174 : vm_M := (RX11, yX11_undo, cX11_undo, 1, (some .int), vm_k174)
def vm_k175 : List vm_I := [(0, .aload_n 0, 1, 0, 0, 0), (1, .iload_n 1, 1, 0, 0, 0), (2, .invokevirtual 159, 3, 0, 150, 1001), (5, .ifCond .ne 5, 3, 0, 0, 0), (8, .iconst (-1), 1, 0, 0, 0), (9, .ireturn, 1, 0, 0, 0), (10, .aload_n 0, 1, 0, 0, 0), (11, .getfield 16, 3, 10, 2, 0), (14, .iconst 0, 1, 0, 0, 0), (15, .iload_n 1, 1, 0, 0, 0), (16, .iadd, 1, 0, 0, 0), (17, .iaload, 1, 0, 0, 0), (18, .istore_n 2, 1, 0, 0, 0), (19, .iconst 0, 1, 0, 0, 0), (20, .istore_n 3, 1, 0, 0, 0), (21, .iload_n 3, 1, 0, 0, 0), (22, .bipush 61, 2, 0, 0, 0), (24, .if_icmp .ge 42, 3, 0, 0, 0), (27, .iload_n 2, 1, 0, 0, 0), (28, .ifCond .ne 5, 3, 0, 0, 0), (31, .iload_n 3, 1, 0, 0, 0), (32, .ireturn, 1, 0, 0, 0), (33, .iload_n 2, 1, 0, 0, 0), (34, .aload_n 0, 1, 0, 0, 0), (35, .getfield 16, 3, 10, 2, 0), (38, .bipush 24, 2, 0, 0, 0), (40, .iload_n 1, 1, 0, 0, 0), (41, .iadd, 1, 0, 0, 0), (42, .iaload, 1, 0, 0, 0), (43, .aload_n 0, 1, 0, 0, 0), (44, .aload_n 0, 1, 0, 0, 0), (45, .getfield 16, 3, 10, 2, 0), (48, .bipush 32, 2, 0, 0, 0), (50, .iaload, 1, 0, 0, 0), (51, .iload_n 3, 1, 0, 0, 0), (52, .iadd, 1, 0, 0, 0), (53, .invokevirtual 155, 3, 0, 153, 1001), (56, .invokestatic 168, 3, 1, 158, 3), (59, .istore_n 2, 1, 0, 0, 0), (60, .iinc 3 1, 3, 0, 0, 0), (63, .goto (-42), 3, 0, 0, 0), (66, .bipush (-4), 2, 0, 0, 0), (68, .ireturn, 1, 0, 0, 0)]
def vm_m175 : vm_M := (RX11, yX11_lasts, cX11_lasts, 4, (some .int), vm_k175)
def vm_k176 : List vm_I := [(0, .aload_n 0, 1, 0, 0, 0), (1, .getfield 16, 3, 10, 2, 0), (4, .bipush 8, 2, 0, 0, 0), (6, .iconst 4, 1, 0, 0, 0), (7, .iload_n 1, 1, 0, 0, 0), (8, .imul, 1, 0, 0, 0), (9, .iadd, 1, 0, 0, 0), (10, .aload_n 0, 1, 0, 0, 0), (11, .getfield 40, 3, 10, 16, 0), (14, .iconst 0, 1, 0, 0, 0), (15, .iconst 4, 1, 0, 0, 0), (16, .invokestatic 137, 3, 1, 130, 5), (19, .return_, 1, 0, 0, 0)]
def vm_m176 : vm_M := (RX11, yX11_layLogs, cX11_layLogs, 2, none, vm_k176)
def vm_k177 : List vm_I := [(0, .iload_n 3, 1, 0, 0, 0), (1, .istore 4, 2, 0, 0, 0), (3, .iload_n 2, 1, 0, 0, 0), (4, .iconst 1, 1, 0, 0, 0), (5, .isub, 1, 0, 0, 0), (6, .istore 5, 2, 0, 0, 0), (8, .iload 5, 2, 0, 0, 0), (10, .ifCond .lt 26, 3, 0, 0, 0), (13, .aload_n 0, 1, 0, 0, 0), (14, .getfield 34, 3, 10, 14, 0), (17, .iload 5, 2, 0, 0, 0), (19, .iload 4, 2, 0, 0, 0), (21, .iconst 5, 1, 0, 0, 0), (22, .irem, 1, 0, 0, 0), (23, .iastore, 1, 0, 0, 0), (24, .iload 4, 2, 0, 0, 0), (26, .iconst 5, 1, 0, 0, 0), (27, .idiv, 1, 0, 0, 0), (28, .istore 4, 2, 0, 0, 0), (30, .iinc 5 (-1), 3, 0, 0, 0), (33, .goto (-25), 3, 0, 0, 0), (36, .aload_n 0, 1, 0, 0, 0), (37, .getfield 16, 3, 10, 2, 0), (40, .iconst 0, 1, 0, 0, 0), (41, .iload_n 1, 1, 0, 0, 0), (42, .iadd, 1, 0, 0, 0), (43, .iaload, 1, 0, 0, 0), (44, .istore 5, 2, 0, 0, 0), (46, .aload_n 0, 1, 0, 0, 0), (47, .getfield 16, 3, 10, 2, 0), (50, .bipush 24, 2, 0, 0, 0), (52, .iload_n 1, 1, 0, 0, 0), (53, .iadd, 1, 0, 0, 0), (54, .iaload, 1, 0, 0, 0), (55, .istore 6, 2, 0, 0, 0), (57, .iconst 0, 1, 0, 0, 0), (58, .istore 7, 2, 0, 0, 0), (60, .iconst 0, 1, 0, 0, 0), (61, .istore 8, 2, 0, 0, 0), (63, .iload 8, 2, 0, 0, 0), (65, .iload_n 2, 1, 0, 0, 0), (66, .if_icmp .ge 114, 3, 0, 0, 0), (69, .aload_n 0, 1, 0, 0, 0), (70, .getfield 34, 3, 10, 14, 0), (73, .iload 8, 2, 0, 0, 0), (75, .iaload, 1, 0, 0, 0), (76, .istore 9, 2, 0, 0, 0), (78, .iload 9, 2, 0, 0, 0), (80, .iconst 4, 1, 0, 0, 0), (81, .if_icmp .ge 47, 3, 0, 0, 0), (84, .aload_n 0, 1, 0, 0, 0), (85, .getfield 40, 3, 10, 16, 0), (88, .iload 9, 2, 0, 0, 0), (90, .iaload, 1, 0, 0, 0), (91, .ifCond .ne 10, 3, 0, 0, 0), (94, .aload_n 0, 1, 0, 0, 0), (95, .iload 8, 2, 0, 0, 0), (97, .invokevirtual 206, 3, 0, 178, 1001), (100, .ireturn, 1, 0, 0, 0), (101, .aload_n 0, 1, 0, 0, 0), (102, .getfield 40, 3, 10, 16, 0), (105, .iload 9, 2, 0, 0, 0), (107, .dup2, 1, 0, 0, 0), (108, .iaload, 1, 0, 0, 0), (109, .iconst 1, 1, 0, 0, 0), (110, .isub, 1, 0, 0, 0), (111, .iastore, 1, 0, 0, 0), (112, .iinc 7 1, 3, 0, 0, 0), (115, .iload 5, 2, 0, 0, 0), (117, .iload 9, 2, 0, 0, 0), (119, .invokestatic 162, 3, 1, 157, 2), (122, .istore 5, 2, 0, 0, 0), (124, .iload 9, 2, 0, 0, 0), (126, .istore 6, 2, 0, 0, 0), (128, .iload 5, 2, 0, 0, 0), (130, .ifCond .ne 7, 3, 0, 0, 0), (133, .iconst 0, 1, 0, 0, 0), (134, .goto 24, 3, 0, 0, 0), (137, .iload 5, 2, 0, 0, 0), (139, .iload 6, 2, 0, 0, 0), (141, .aload_n 0, 1, 0, 0, 0), (142, .aload_n 0, 1, 0, 0, 0), (143, .getfield 16, 3, 10, 2, 0), (146, .bipush 32, 2, 0, 0, 0), (148, .iaload, 1, 0, 0, 0), (149, .iload 8, 2, 0, 0, 0), (151, .iadd, 1, 0, 0, 0), (152, .invokevirtual 155, 3, 0, 153, 1001), (155, .invokestatic 168, 3, 1, 158, 3), (158, .istore 5, 2, 0, 0, 0), (160, .iload 5, 2, 0, 0, 0), (162, .ifCond .ne 12, 3, 0, 0, 0), (165, .aload_n 0, 1, 0, 0, 0), (166, .iload 8, 2, 0, 0, 0), (168, .iconst 1, 1, 0, 0, 0), (169, .iadd, 1, 0, 0, 0), (170, .invokevirtual 206, 3, 0, 178, 1001), (173, .ireturn, 1, 0, 0, 0), (174, .iinc 8 1, 3, 0, 0, 0), (177, .goto (-114), 3, 0, 0, 0), (180, .aload_n 0, 1, 0, 0, 0), (181, .iload_n 2, 1, 0, 0, 0), (182, .invokevirtual 206, 3, 0, 178, 1001), (185, .istore 8, 2, 0, 0, 0), (187, .iload 7, 2, 0, 0, 0), (189, .ireturn, 1, 0, 0, 0)]
def vm_m177 : vm_M := (RX11, yX11_keptBy, cX11_keptBy, 10, (some .int), vm_k177)
def vm_k178 : List vm_I := [(0, .iconst 0, 1, 0, 0, 0), (1, .istore_n 2, 1, 0, 0, 0), (2, .iload_n 2, 1, 0, 0, 0), (3, .iload_n 1, 1, 0, 0, 0), (4, .if_icmp .ge 34, 3, 0, 0, 0), (7, .aload_n 0, 1, 0, 0, 0), (8, .getfield 34, 3, 10, 14, 0), (11, .iload_n 2, 1, 0, 0, 0), (12, .iaload, 1, 0, 0, 0), (13, .iconst 4, 1, 0, 0, 0), (14, .if_icmp .ge 18, 3, 0, 0, 0), (17, .aload_n 0, 1, 0, 0, 0), (18, .getfield 40, 3, 10, 16, 0), (21, .aload_n 0, 1, 0, 0, 0), (22, .getfield 34, 3, 10, 14, 0), (25, .iload_n 2, 1, 0, 0, 0), (26, .iaload, 1, 0, 0, 0), (27, .dup2, 1, 0, 0, 0), (28, .iaload, 1, 0, 0, 0), (29, .iconst 1, 1, 0, 0, 0), (30, .iadd, 1, 0, 0, 0), (31, .iastore, 1, 0, 0, 0), (32, .iinc 2 1, 3, 0, 0, 0), (35, .goto (-33), 3, 0, 0, 0), (38, .ldc 209, 2, 0, 0, 0), (40, .ireturn, 1, 0, 0, 0)]
def vm_m178 : vm_M := (RX11, yX11_giveBack, cX11_giveBack, 3, (some .int), vm_k178)
def vm_k179 : List vm_I := [(0, .iconst 1, 1, 0, 0, 0), (1, .istore_n 3, 1, 0, 0, 0), (2, .iconst 0, 1, 0, 0, 0), (3, .istore 4, 2, 0, 0, 0), (5, .iload 4, 2, 0, 0, 0), (7, .iload_n 2, 1, 0, 0, 0), (8, .if_icmp .ge 13, 3, 0, 0, 0), (11, .iload_n 3, 1, 0, 0, 0), (12, .iconst 5, 1, 0, 0, 0), (13, .imul, 1, 0, 0, 0), (14, .istore_n 3, 1, 0, 0, 0), (15, .iinc 4 1, 3, 0, 0, 0), (18, .goto (-13), 3, 0, 0, 0), (21, .ldc 209, 2, 0, 0, 0), (23, .istore 4, 2, 0, 0, 0), (25, .iconst 0, 1, 0, 0, 0), (26, .istore 5, 2, 0, 0, 0), (28, .iload 5, 2, 0, 0, 0), (30, .iload_n 3, 1, 0, 0, 0), (31, .if_icmp .ge 44, 3, 0, 0, 0), (34, .aload_n 0, 1, 0, 0, 0), (35, .iload_n 1, 1, 0, 0, 0), (36, .iload_n 2, 1, 0, 0, 0), (37, .iload 5, 2, 0, 0, 0), (39, .invokevirtual 210, 3, 0, 177, 1003), (42, .istore 6, 2, 0, 0, 0), (44, .iload 6, 2, 0, 0, 0), (46, .iload 4, 2, 0, 0, 0), (48, .if_icmp .ge 21, 3, 0, 0, 0), (51, .iload 6, 2, 0, 0, 0), (53, .istore 4, 2, 0, 0, 0), (55, .aload_n 0, 1, 0, 0, 0), (56, .getfield 34, 3, 10, 14, 0), (59, .iconst 0, 1, 0, 0, 0), (60, .aload_n 0, 1, 0, 0, 0), (61, .getfield 37, 3, 10, 15, 0), (64, .iconst 0, 1, 0, 0, 0), (65, .iload_n 2, 1, 0, 0, 0), (66, .invokestatic 137, 3, 1, 130, 5), (69, .iinc 5 1, 3, 0, 0, 0), (72, .goto (-44), 3, 0, 0, 0), (75, .iload 4, 2, 0, 0, 0), (77, .ireturn, 1, 0, 0, 0)]
def vm_m179 : vm_M := (RX11, yX11_keeps, cX11_keeps, 7, (some .int), vm_k179)
def vm_k180 : List vm_I := [(0, .aload_n 0, 1, 0, 0, 0), (1, .iload_n 1, 1, 0, 0, 0), (2, .invokevirtual 159, 3, 0, 150, 1001), (5, .ifCond .eq 20, 3, 0, 0, 0), (8, .iload_n 2, 1, 0, 0, 0), (9, .i2l, 1, 0, 0, 0), (10, .lconst 1, 1, 0, 0, 0), (11, .ldc2_w 213, 3, 10, 0, 0), (14, .invokestatic 86, 3, 1, 128, 3), (17, .ifCond .eq 8, 3, 0, 0, 0), (20, .iload_n 3, 1, 0, 0, 0), (21, .iconst (-1), 1, 0, 0, 0), (22, .if_icmp .ge 5, 3, 0, 0, 0), (25, .iconst (-1), 1, 0, 0, 0), (26, .ireturn, 1, 0, 0, 0), (27, .aload_n 0, 1, 0, 0, 0), (28, .iload_n 1, 1, 0, 0, 0), (29, .invokevirtual 199, 3, 0, 159, 1001), (32, .ifCond .ne 6, 3, 0, 0, 0), (35, .bipush (-2), 2, 0, 0, 0), (37, .ireturn, 1, 0, 0, 0), (38, .aload_n 0, 1, 0, 0, 0), (39, .iload_n 1, 1, 0, 0, 0), (40, .invokevirtual 215, 3, 0, 176, 1001), (43, .aload_n 0, 1, 0, 0, 0), (44, .iload_n 1, 1, 0, 0, 0), (45, .iload_n 2, 1, 0, 0, 0), (46, .invokevirtual 219, 3, 0, 179, 1002), (49, .istore 4, 2, 0, 0, 0), (51, .iload 4, 2, 0, 0, 0), (53, .ldc 209, 2, 0, 0, 0), (55, .if_icmp .eq 8, 3, 0, 0, 0), (58, .iload_n 3, 1, 0, 0, 0), (59, .iconst (-1), 1, 0, 0, 0), (60, .if_icmp .ne 18, 3, 0, 0, 0), (63, .iload 4, 2, 0, 0, 0), (65, .ldc 209, 2, 0, 0, 0), (67, .if_icmp .ne 8, 3, 0, 0, 0), (70, .bipush (-4), 2, 0, 0, 0), (72, .goto 5, 3, 0, 0, 0), (75, .iload 4, 2, 0, 0, 0), (77, .ireturn, 1, 0, 0, 0), (78, .iload_n 3, 1, 0, 0, 0), (79, .iload_n 2, 1, 0, 0, 0), (80, .if_icmp .ge 22, 3, 0, 0, 0), (83, .aload_n 0, 1, 0, 0, 0), (84, .getfield 37, 3, 10, 15, 0), (87, .iload_n 3, 1, 0, 0, 0), (88, .iaload, 1, 0, 0, 0), (89, .iconst 4, 1, 0, 0, 0), (90, .if_icmp .ge 12, 3, 0, 0, 0), (93, .aload_n 0, 1, 0, 0, 0), (94, .getfield 37, 3, 10, 15, 0), (97, .iload_n 3, 1, 0, 0, 0), (98, .iaload, 1, 0, 0, 0), (99, .goto 5, 3, 0, 0, 0), (102, .bipush (-4), 2, 0, 0, 0), (104, .ireturn, 1, 0, 0, 0)]
def vm_m180 : vm_M := (RX11, yX11_stays, cX11_stays, 5, (some .int), vm_k180)
def vm_k181 : List vm_I := [(0, .aload_n 0, 1, 0, 0, 0), (1, .getfield 16, 3, 10, 2, 0), (4, .iconst 0, 1, 0, 0, 0), (5, .iload_n 1, 1, 0, 0, 0), (6, .iadd, 1, 0, 0, 0), (7, .iaload, 1, 0, 0, 0), (8, .istore 4, 2, 0, 0, 0), (10, .aload_n 0, 1, 0, 0, 0), (11, .getfield 16, 3, 10, 2, 0), (14, .iconst 4, 1, 0, 0, 0), (15, .iload_n 1, 1, 0, 0, 0), (16, .iadd, 1, 0, 0, 0), (17, .iaload, 1, 0, 0, 0), (18, .istore 5, 2, 0, 0, 0), (20, .aload_n 0, 1, 0, 0, 0), (21, .iload_n 1, 1, 0, 0, 0), (22, .invokevirtual 215, 3, 0, 176, 1001), (25, .iconst 0, 1, 0, 0, 0), (26, .istore 6, 2, 0, 0, 0), (28, .iload 6, 2, 0, 0, 0), (30, .iload_n 3, 1, 0, 0, 0), (31, .if_icmp .ge 78, 3, 0, 0, 0), (34, .aload_n 0, 1, 0, 0, 0), (35, .getfield 40, 3, 10, 16, 0), (38, .aload_n 0, 1, 0, 0, 0), (39, .getfield 34, 3, 10, 14, 0), (42, .iload 6, 2, 0, 0, 0), (44, .iaload, 1, 0, 0, 0), (45, .iaload, 1, 0, 0, 0), (46, .ifCond .ne 5, 3, 0, 0, 0), (49, .iconst 0, 1, 0, 0, 0), (50, .ireturn, 1, 0, 0, 0), (51, .aload_n 0, 1, 0, 0, 0), (52, .getfield 40, 3, 10, 16, 0), (55, .aload_n 0, 1, 0, 0, 0), (56, .getfield 34, 3, 10, 14, 0), (59, .iload 6, 2, 0, 0, 0), (61, .iaload, 1, 0, 0, 0), (62, .dup2, 1, 0, 0, 0), (63, .iaload, 1, 0, 0, 0), (64, .iconst 1, 1, 0, 0, 0), (65, .isub, 1, 0, 0, 0), (66, .iastore, 1, 0, 0, 0), (67, .iload 4, 2, 0, 0, 0), (69, .aload_n 0, 1, 0, 0, 0), (70, .getfield 34, 3, 10, 14, 0), (73, .iload 6, 2, 0, 0, 0), (75, .iaload, 1, 0, 0, 0), (76, .invokestatic 162, 3, 1, 157, 2), (79, .istore 4, 2, 0, 0, 0), (81, .iload 4, 2, 0, 0, 0), (83, .ifCond .ne 5, 3, 0, 0, 0), (86, .iconst 0, 1, 0, 0, 0), (87, .ireturn, 1, 0, 0, 0), (88, .aload_n 0, 1, 0, 0, 0), (89, .iload 5, 2, 0, 0, 0), (91, .aload_n 0, 1, 0, 0, 0), (92, .getfield 34, 3, 10, 14, 0), (95, .iload 6, 2, 0, 0, 0), (97, .iaload, 1, 0, 0, 0), (98, .invokevirtual 222, 3, 0, 152, 1002), (101, .istore 5, 2, 0, 0, 0), (103, .iinc 6 1, 3, 0, 0, 0), (106, .goto (-78), 3, 0, 0, 0), (109, .iload 5, 2, 0, 0, 0), (111, .iload_n 2, 1, 0, 0, 0), (112, .if_icmp .ne 7, 3, 0, 0, 0), (115, .iconst 1, 1, 0, 0, 0), (116, .goto 4, 3, 0, 0, 0), (119, .iconst 0, 1, 0, 0, 0), (120, .ireturn, 1, 0, 0, 0)]
def vm_m181 : vm_M := (RX11, yX11_tellsBy, cX11_tellsBy, 7, (some .boolean), vm_k181)
def vm_k182 : List vm_I := [(0, .iconst 1, 1, 0, 0, 0), (1, .istore_n 3, 1, 0, 0, 0), (2, .iconst 0, 1, 0, 0, 0), (3, .istore 4, 2, 0, 0, 0), (5, .iload 4, 2, 0, 0, 0), (7, .bipush 7, 2, 0, 0, 0), (9, .if_icmp .ge 80, 3, 0, 0, 0), (12, .iconst 0, 1, 0, 0, 0), (13, .istore 5, 2, 0, 0, 0), (15, .iload 5, 2, 0, 0, 0), (17, .iload_n 3, 1, 0, 0, 0), (18, .if_icmp .ge 61, 3, 0, 0, 0), (21, .iload 5, 2, 0, 0, 0), (23, .istore 6, 2, 0, 0, 0), (25, .iload 4, 2, 0, 0, 0), (27, .iconst 1, 1, 0, 0, 0), (28, .isub, 1, 0, 0, 0), (29, .istore 7, 2, 0, 0, 0), (31, .iload 7, 2, 0, 0, 0), (33, .ifCond .lt 26, 3, 0, 0, 0), (36, .aload_n 0, 1, 0, 0, 0), (37, .getfield 34, 3, 10, 14, 0), (40, .iload 7, 2, 0, 0, 0), (42, .iload 6, 2, 0, 0, 0), (44, .iconst 4, 1, 0, 0, 0), (45, .irem, 1, 0, 0, 0), (46, .iastore, 1, 0, 0, 0), (47, .iload 6, 2, 0, 0, 0), (49, .iconst 4, 1, 0, 0, 0), (50, .idiv, 1, 0, 0, 0), (51, .istore 6, 2, 0, 0, 0), (53, .iinc 7 (-1), 3, 0, 0, 0), (56, .goto (-25), 3, 0, 0, 0), (59, .aload_n 0, 1, 0, 0, 0), (60, .iload_n 1, 1, 0, 0, 0), (61, .iload_n 2, 1, 0, 0, 0), (62, .iload 4, 2, 0, 0, 0), (64, .invokevirtual 225, 3, 0, 181, 1003), (67, .ifCond .eq 6, 3, 0, 0, 0), (70, .iload 4, 2, 0, 0, 0), (72, .ireturn, 1, 0, 0, 0), (73, .iinc 5 1, 3, 0, 0, 0), (76, .goto (-61), 3, 0, 0, 0), (79, .iload_n 3, 1, 0, 0, 0), (80, .iconst 4, 1, 0, 0, 0), (81, .imul, 1, 0, 0, 0), (82, .istore_n 3, 1, 0, 0, 0), (83, .iinc 4 1, 3, 0, 0, 0), (86, .goto (-81), 3, 0, 0, 0), (89, .bipush (-4), 2, 0, 0, 0), (91, .ireturn, 1, 0, 0, 0)]
def vm_m182 : vm_M := (RX11, yX11_tellsFor, cX11_tellsFor, 8, (some .int), vm_k182)
def vm_k183 : List vm_I := [(0, .aload_n 0, 1, 0, 0, 0), (1, .iload_n 1, 1, 0, 0, 0), (2, .invokevirtual 159, 3, 0, 150, 1001), (5, .ifCond .eq 16, 3, 0, 0, 0), (8, .aload_n 0, 1, 0, 0, 0), (9, .iload_n 2, 1, 0, 0, 0), (10, .invokevirtual 147, 3, 0, 148, 1001), (13, .ifCond .eq 8, 3, 0, 0, 0), (16, .iload_n 3, 1, 0, 0, 0), (17, .iconst (-1), 1, 0, 0, 0), (18, .if_icmp .ge 5, 3, 0, 0, 0), (21, .iconst (-1), 1, 0, 0, 0), (22, .ireturn, 1, 0, 0, 0), (23, .aload_n 0, 1, 0, 0, 0), (24, .iload_n 1, 1, 0, 0, 0), (25, .invokevirtual 199, 3, 0, 159, 1001), (28, .ifCond .ne 6, 3, 0, 0, 0), (31, .bipush (-2), 2, 0, 0, 0), (33, .ireturn, 1, 0, 0, 0), (34, .aload_n 0, 1, 0, 0, 0), (35, .iload_n 1, 1, 0, 0, 0), (36, .iload_n 2, 1, 0, 0, 0), (37, .invokevirtual 228, 3, 0, 182, 1002), (40, .istore 4, 2, 0, 0, 0), (42, .iload 4, 2, 0, 0, 0), (44, .bipush (-4), 2, 0, 0, 0), (46, .if_icmp .eq 8, 3, 0, 0, 0), (49, .iload_n 3, 1, 0, 0, 0), (50, .iconst (-1), 1, 0, 0, 0), (51, .if_icmp .ne 8, 3, 0, 0, 0), (54, .iload 4, 2, 0, 0, 0), (56, .goto 20, 3, 0, 0, 0), (59, .iload_n 3, 1, 0, 0, 0), (60, .iload 4, 2, 0, 0, 0), (62, .if_icmp .ge 12, 3, 0, 0, 0), (65, .aload_n 0, 1, 0, 0, 0), (66, .getfield 34, 3, 10, 14, 0), (69, .iload_n 3, 1, 0, 0, 0), (70, .iaload, 1, 0, 0, 0), (71, .goto 5, 3, 0, 0, 0), (74, .bipush (-4), 2, 0, 0, 0), (76, .ireturn, 1, 0, 0, 0)]
def vm_m183 : vm_M := (RX11, yX11_tell, cX11_tell, 5, (some .int), vm_k183)
def vm_k184 : List vm_I := [(0, .iconst 0, 1, 0, 0, 0), (1, .istore_n 3, 1, 0, 0, 0), (2, .iload_n 3, 1, 0, 0, 0), (3, .bipush 81, 2, 0, 0, 0), (5, .if_icmp .ge 17, 3, 0, 0, 0), (8, .aload_n 0, 1, 0, 0, 0), (9, .getfield 49, 3, 10, 19, 0), (12, .iload_n 3, 1, 0, 0, 0), (13, .bipush (-4), 2, 0, 0, 0), (15, .iastore, 1, 0, 0, 0), (16, .iinc 3 1, 3, 0, 0, 0), (19, .goto (-17), 3, 0, 0, 0), (22, .bipush 9, 2, 0, 0, 0), (24, .iload_n 1, 1, 0, 0, 0), (25, .imul, 1, 0, 0, 0), (26, .iload_n 2, 1, 0, 0, 0), (27, .iadd, 1, 0, 0, 0), (28, .istore_n 3, 1, 0, 0, 0), (29, .iconst 1, 1, 0, 0, 0), (30, .istore 4, 2, 0, 0, 0), (32, .aload_n 0, 1, 0, 0, 0), (33, .getfield 43, 3, 10, 17, 0), (36, .iconst 0, 1, 0, 0, 0), (37, .iload_n 3, 1, 0, 0, 0), (38, .iastore, 1, 0, 0, 0), (39, .aload_n 0, 1, 0, 0, 0), (40, .getfield 49, 3, 10, 19, 0), (43, .iload_n 3, 1, 0, 0, 0), (44, .iconst (-1), 1, 0, 0, 0), (45, .iastore, 1, 0, 0, 0), (46, .iconst 0, 1, 0, 0, 0), (47, .istore 5, 2, 0, 0, 0), (49, .iload 5, 2, 0, 0, 0), (51, .iload 4, 2, 0, 0, 0), (53, .if_icmp .ge 123, 3, 0, 0, 0), (56, .aload_n 0, 1, 0, 0, 0), (57, .getfield 43, 3, 10, 17, 0), (60, .iload 5, 2, 0, 0, 0), (62, .iaload, 1, 0, 0, 0), (63, .istore 6, 2, 0, 0, 0), (65, .iload 6, 2, 0, 0, 0), (67, .bipush 9, 2, 0, 0, 0), (69, .idiv, 1, 0, 0, 0), (70, .iload 6, 2, 0, 0, 0), (72, .bipush 9, 2, 0, 0, 0), (74, .irem, 1, 0, 0, 0), (75, .if_icmp .ne 10, 3, 0, 0, 0), (78, .aload_n 0, 1, 0, 0, 0), (79, .iload 6, 2, 0, 0, 0), (81, .invokevirtual 231, 3, 0, 185, 1001), (84, .ireturn, 1, 0, 0, 0), (85, .iconst 0, 1, 0, 0, 0), (86, .istore 7, 2, 0, 0, 0), (88, .iload 7, 2, 0, 0, 0), (90, .iconst 4, 1, 0, 0, 0), (91, .if_icmp .ge 79, 3, 0, 0, 0), (94, .bipush 9, 2, 0, 0, 0), (96, .aload_n 0, 1, 0, 0, 0), (97, .iload 6, 2, 0, 0, 0), (99, .bipush 9, 2, 0, 0, 0), (101, .idiv, 1, 0, 0, 0), (102, .iload 7, 2, 0, 0, 0), (104, .invokevirtual 222, 3, 0, 152, 1002), (107, .imul, 1, 0, 0, 0), (108, .aload_n 0, 1, 0, 0, 0), (109, .iload 6, 2, 0, 0, 0), (111, .bipush 9, 2, 0, 0, 0), (113, .irem, 1, 0, 0, 0), (114, .iload 7, 2, 0, 0, 0), (116, .invokevirtual 222, 3, 0, 152, 1002), (119, .iadd, 1, 0, 0, 0), (120, .istore 8, 2, 0, 0, 0), (122, .aload_n 0, 1, 0, 0, 0), (123, .getfield 49, 3, 10, 19, 0), (126, .iload 8, 2, 0, 0, 0), (128, .iaload, 1, 0, 0, 0), (129, .bipush (-4), 2, 0, 0, 0), (131, .if_icmp .ne 33, 3, 0, 0, 0), (134, .aload_n 0, 1, 0, 0, 0), (135, .getfield 49, 3, 10, 19, 0), (138, .iload 8, 2, 0, 0, 0), (140, .iload 6, 2, 0, 0, 0), (142, .iastore, 1, 0, 0, 0), (143, .aload_n 0, 1, 0, 0, 0), (144, .getfield 46, 3, 10, 18, 0), (147, .iload 8, 2, 0, 0, 0), (149, .iload 7, 2, 0, 0, 0), (151, .iastore, 1, 0, 0, 0), (152, .aload_n 0, 1, 0, 0, 0), (153, .getfield 43, 3, 10, 17, 0), (156, .iload 4, 2, 0, 0, 0), (158, .iload 8, 2, 0, 0, 0), (160, .iastore, 1, 0, 0, 0), (161, .iinc 4 1, 3, 0, 0, 0), (164, .iinc 7 1, 3, 0, 0, 0), (167, .goto (-79), 3, 0, 0, 0), (170, .iinc 5 1, 3, 0, 0, 0), (173, .goto (-124), 3, 0, 0, 0), (176, .bipush (-4), 2, 0, 0, 0), (178, .ireturn, 1, 0, 0, 0)]
def vm_m184 : vm_M := (RX11, yX11_meets, cX11_meets, 9, (some .int), vm_k184)
def vm_k185 : List vm_I := [(0, .iconst 0, 1, 0, 0, 0), (1, .istore_n 2, 1, 0, 0, 0), (2, .iload_n 1, 1, 0, 0, 0), (3, .istore_n 3, 1, 0, 0, 0), (4, .aload_n 0, 1, 0, 0, 0), (5, .getfield 49, 3, 10, 19, 0), (8, .iload_n 3, 1, 0, 0, 0), (9, .iaload, 1, 0, 0, 0), (10, .iconst (-1), 1, 0, 0, 0), (11, .if_icmp .eq 16, 3, 0, 0, 0), (14, .iinc 2 1, 3, 0, 0, 0), (17, .aload_n 0, 1, 0, 0, 0), (18, .getfield 49, 3, 10, 19, 0), (21, .iload_n 3, 1, 0, 0, 0), (22, .iaload, 1, 0, 0, 0), (23, .istore_n 3, 1, 0, 0, 0), (24, .goto (-20), 3, 0, 0, 0), (27, .iload_n 2, 1, 0, 0, 0), (28, .iconst 1, 1, 0, 0, 0), (29, .isub, 1, 0, 0, 0), (30, .istore_n 3, 1, 0, 0, 0), (31, .iload_n 1, 1, 0, 0, 0), (32, .istore 4, 2, 0, 0, 0), (34, .aload_n 0, 1, 0, 0, 0), (35, .getfield 49, 3, 10, 19, 0), (38, .iload 4, 2, 0, 0, 0), (40, .iaload, 1, 0, 0, 0), (41, .iconst (-1), 1, 0, 0, 0), (42, .if_icmp .eq 31, 3, 0, 0, 0), (45, .aload_n 0, 1, 0, 0, 0), (46, .getfield 52, 3, 10, 20, 0), (49, .iload_n 3, 1, 0, 0, 0), (50, .aload_n 0, 1, 0, 0, 0), (51, .getfield 46, 3, 10, 18, 0), (54, .iload 4, 2, 0, 0, 0), (56, .iaload, 1, 0, 0, 0), (57, .iastore, 1, 0, 0, 0), (58, .iinc 3 (-1), 3, 0, 0, 0), (61, .aload_n 0, 1, 0, 0, 0), (62, .getfield 49, 3, 10, 19, 0), (65, .iload 4, 2, 0, 0, 0), (67, .iaload, 1, 0, 0, 0), (68, .istore 4, 2, 0, 0, 0), (70, .goto (-36), 3, 0, 0, 0), (73, .iload_n 2, 1, 0, 0, 0), (74, .ireturn, 1, 0, 0, 0)]
def vm_m185 : vm_M := (RX11, yX11_laysWay, cX11_laysWay, 5, (some .int), vm_k185)
def vm_k186 : List vm_I := [(0, .aload_n 0, 1, 0, 0, 0), (1, .iload_n 1, 1, 0, 0, 0), (2, .invokevirtual 159, 3, 0, 150, 1001), (5, .ifCond .eq 21, 3, 0, 0, 0), (8, .aload_n 0, 1, 0, 0, 0), (9, .iload_n 2, 1, 0, 0, 0), (10, .invokevirtual 159, 3, 0, 150, 1001), (13, .ifCond .eq 13, 3, 0, 0, 0), (16, .iload_n 1, 1, 0, 0, 0), (17, .iload_n 2, 1, 0, 0, 0), (18, .if_icmp .eq 8, 3, 0, 0, 0), (21, .iload_n 3, 1, 0, 0, 0), (22, .iconst (-1), 1, 0, 0, 0), (23, .if_icmp .ge 5, 3, 0, 0, 0), (26, .iconst (-1), 1, 0, 0, 0), (27, .ireturn, 1, 0, 0, 0), (28, .aload_n 0, 1, 0, 0, 0), (29, .iload_n 1, 1, 0, 0, 0), (30, .invokevirtual 199, 3, 0, 159, 1001), (33, .ifCond .eq 11, 3, 0, 0, 0), (36, .aload_n 0, 1, 0, 0, 0), (37, .iload_n 2, 1, 0, 0, 0), (38, .invokevirtual 199, 3, 0, 159, 1001), (41, .ifCond .ne 6, 3, 0, 0, 0), (44, .bipush (-2), 2, 0, 0, 0), (46, .ireturn, 1, 0, 0, 0), (47, .aload_n 0, 1, 0, 0, 0), (48, .aload_n 0, 1, 0, 0, 0), (49, .getfield 16, 3, 10, 2, 0), (52, .iconst 4, 1, 0, 0, 0), (53, .iload_n 1, 1, 0, 0, 0), (54, .iadd, 1, 0, 0, 0), (55, .iaload, 1, 0, 0, 0), (56, .aload_n 0, 1, 0, 0, 0), (57, .getfield 16, 3, 10, 2, 0), (60, .iconst 4, 1, 0, 0, 0), (61, .iload_n 2, 1, 0, 0, 0), (62, .iadd, 1, 0, 0, 0), (63, .iaload, 1, 0, 0, 0), (64, .invokevirtual 234, 3, 0, 184, 1002), (67, .istore 4, 2, 0, 0, 0), (69, .iload 4, 2, 0, 0, 0), (71, .bipush (-4), 2, 0, 0, 0), (73, .if_icmp .eq 8, 3, 0, 0, 0), (76, .iload_n 3, 1, 0, 0, 0), (77, .iconst (-1), 1, 0, 0, 0), (78, .if_icmp .ne 8, 3, 0, 0, 0), (81, .iload 4, 2, 0, 0, 0), (83, .goto 20, 3, 0, 0, 0), (86, .iload_n 3, 1, 0, 0, 0), (87, .iload 4, 2, 0, 0, 0), (89, .if_icmp .ge 12, 3, 0, 0, 0), (92, .aload_n 0, 1, 0, 0, 0), (93, .getfield 52, 3, 10, 20, 0), (96, .iload_n 3, 1, 0, 0, 0), (97, .iaload, 1, 0, 0, 0), (98, .goto 5, 3, 0, 0, 0), (101, .bipush (-4), 2, 0, 0, 0), (103, .ireturn, 1, 0, 0, 0)]
def vm_m186 : vm_M := (RX11, yX11_meet, cX11_meet, 5, (some .int), vm_k186)
def vm_k187 : List vm_I := [(0, .aload_n 0, 1, 0, 0, 0), (1, .iload_n 1, 1, 0, 0, 0), (2, .invokevirtual 159, 3, 0, 150, 1001), (5, .ifCond .ne 5, 3, 0, 0, 0), (8, .iconst (-1), 1, 0, 0, 0), (9, .ireturn, 1, 0, 0, 0), (10, .aload_n 0, 1, 0, 0, 0), (11, .iload_n 1, 1, 0, 0, 0), (12, .invokevirtual 199, 3, 0, 159, 1001), (15, .ifCond .ne 6, 3, 0, 0, 0), (18, .bipush (-2), 2, 0, 0, 0), (20, .ireturn, 1, 0, 0, 0), (21, .iconst 1, 1, 0, 0, 0), (22, .aload_n 0, 1, 0, 0, 0), (23, .getfield 16, 3, 10, 2, 0), (26, .iconst 4, 1, 0, 0, 0), (27, .iload_n 1, 1, 0, 0, 0), (28, .iadd, 1, 0, 0, 0), (29, .iaload, 1, 0, 0, 0), (30, .ishl, 1, 0, 0, 0), (31, .istore_n 2, 1, 0, 0, 0), (32, .iconst 0, 1, 0, 0, 0), (33, .istore_n 3, 1, 0, 0, 0), (34, .iload_n 2, 1, 0, 0, 0), (35, .iload_n 3, 1, 0, 0, 0), (36, .if_icmp .eq 69, 3, 0, 0, 0), (39, .iload_n 2, 1, 0, 0, 0), (40, .istore_n 3, 1, 0, 0, 0), (41, .iconst 0, 1, 0, 0, 0), (42, .istore 4, 2, 0, 0, 0), (44, .iload 4, 2, 0, 0, 0), (46, .aload_n 0, 1, 0, 0, 0), (47, .getfield 7, 3, 10, 0, 0), (50, .iconst 0, 1, 0, 0, 0), (51, .iaload, 1, 0, 0, 0), (52, .if_icmp .ge 50, 3, 0, 0, 0), (55, .iconst 0, 1, 0, 0, 0), (56, .istore 5, 2, 0, 0, 0), (58, .iload 5, 2, 0, 0, 0), (60, .iconst 4, 1, 0, 0, 0), (61, .if_icmp .ge 35, 3, 0, 0, 0), (64, .iload_n 2, 1, 0, 0, 0), (65, .iload_n 3, 1, 0, 0, 0), (66, .iload 4, 2, 0, 0, 0), (68, .invokestatic 237, 3, 1, 129, 2), (71, .ifCond .eq 16, 3, 0, 0, 0), (74, .iconst 1, 1, 0, 0, 0), (75, .aload_n 0, 1, 0, 0, 0), (76, .iload 4, 2, 0, 0, 0), (78, .iload 5, 2, 0, 0, 0), (80, .invokevirtual 222, 3, 0, 152, 1002), (83, .ishl, 1, 0, 0, 0), (84, .goto 4, 3, 0, 0, 0), (87, .iconst 0, 1, 0, 0, 0), (88, .ior, 1, 0, 0, 0), (89, .istore_n 2, 1, 0, 0, 0), (90, .iinc 5 1, 3, 0, 0, 0), (93, .goto (-35), 3, 0, 0, 0), (96, .iinc 4 1, 3, 0, 0, 0), (99, .goto (-55), 3, 0, 0, 0), (102, .goto (-68), 3, 0, 0, 0), (105, .iload_n 2, 1, 0, 0, 0), (106, .ireturn, 1, 0, 0, 0)]
def vm_m187 : vm_M := (RX11, yX11_can, cX11_can, 6, (some .int), vm_k187)
def vm_k188 : List vm_I := [(0, .aload_n 0, 1, 0, 0, 0), (1, .iload_n 1, 1, 0, 0, 0), (2, .invokevirtual 215, 3, 0, 176, 1001), (5, .aload_n 0, 1, 0, 0, 0), (6, .getfield 40, 3, 10, 16, 0), (9, .iload_n 3, 1, 0, 0, 0), (10, .dup2, 1, 0, 0, 0), (11, .iaload, 1, 0, 0, 0), (12, .iload 4, 2, 0, 0, 0), (14, .iadd, 1, 0, 0, 0), (15, .iastore, 1, 0, 0, 0), (16, .aload_n 0, 1, 0, 0, 0), (17, .iload_n 1, 1, 0, 0, 0), (18, .iload_n 2, 1, 0, 0, 0), (19, .invokevirtual 219, 3, 0, 179, 1002), (22, .ldc 209, 2, 0, 0, 0), (24, .if_icmp .ge 7, 3, 0, 0, 0), (27, .iconst 1, 1, 0, 0, 0), (28, .goto 4, 3, 0, 0, 0), (31, .iconst 0, 1, 0, 0, 0), (32, .ireturn, 1, 0, 0, 0)]
def vm_m188 : vm_M := (RX11, yX11_isKeptWith, cX11_isKeptWith, 5, (some .boolean), vm_k188)
def vm_k189 : List vm_I := [(0, .aload_n 0, 1, 0, 0, 0), (1, .iload_n 1, 1, 0, 0, 0), (2, .invokevirtual 159, 3, 0, 150, 1001), (5, .ifCond .eq 28, 3, 0, 0, 0), (8, .aload_n 0, 1, 0, 0, 0), (9, .iload_n 2, 1, 0, 0, 0), (10, .invokevirtual 159, 3, 0, 150, 1001), (13, .ifCond .eq 20, 3, 0, 0, 0), (16, .iload_n 1, 1, 0, 0, 0), (17, .iload_n 2, 1, 0, 0, 0), (18, .if_icmp .eq 15, 3, 0, 0, 0), (21, .iload_n 3, 1, 0, 0, 0), (22, .i2l, 1, 0, 0, 0), (23, .lconst 1, 1, 0, 0, 0), (24, .ldc2_w 213, 3, 10, 0, 0), (27, .invokestatic 86, 3, 1, 128, 3), (30, .ifCond .ne 5, 3, 0, 0, 0), (33, .iconst (-1), 1, 0, 0, 0), (34, .ireturn, 1, 0, 0, 0), (35, .aload_n 0, 1, 0, 0, 0), (36, .iload_n 1, 1, 0, 0, 0), (37, .invokevirtual 199, 3, 0, 159, 1001), (40, .ifCond .eq 11, 3, 0, 0, 0), (43, .aload_n 0, 1, 0, 0, 0), (44, .iload_n 2, 1, 0, 0, 0), (45, .invokevirtual 199, 3, 0, 159, 1001), (48, .ifCond .ne 6, 3, 0, 0, 0), (51, .bipush (-2), 2, 0, 0, 0), (53, .ireturn, 1, 0, 0, 0), (54, .iconst 0, 1, 0, 0, 0), (55, .istore 4, 2, 0, 0, 0), (57, .iload 4, 2, 0, 0, 0), (59, .iconst 4, 1, 0, 0, 0), (60, .if_icmp .ge 47, 3, 0, 0, 0), (63, .aload_n 0, 1, 0, 0, 0), (64, .iload_n 1, 1, 0, 0, 0), (65, .iload_n 2, 1, 0, 0, 0), (66, .iload 4, 2, 0, 0, 0), (68, .invokevirtual 202, 3, 0, 172, 1003), (71, .ifCond .eq 30, 3, 0, 0, 0), (74, .aload_n 0, 1, 0, 0, 0), (75, .iload_n 1, 1, 0, 0, 0), (76, .iload_n 3, 1, 0, 0, 0), (77, .iload 4, 2, 0, 0, 0), (79, .iconst (-1), 1, 0, 0, 0), (80, .invokevirtual 240, 3, 0, 188, 1004), (83, .ifCond .eq 18, 3, 0, 0, 0), (86, .aload_n 0, 1, 0, 0, 0), (87, .iload_n 2, 1, 0, 0, 0), (88, .iload_n 3, 1, 0, 0, 0), (89, .iload 4, 2, 0, 0, 0), (91, .iconst 1, 1, 0, 0, 0), (92, .invokevirtual 240, 3, 0, 188, 1004), (95, .ifCond .eq 6, 3, 0, 0, 0), (98, .iload 4, 2, 0, 0, 0), (100, .ireturn, 1, 0, 0, 0), (101, .iinc 4 1, 3, 0, 0, 0), (104, .goto (-47), 3, 0, 0, 0), (107, .bipush (-4), 2, 0, 0, 0), (109, .ireturn, 1, 0, 0, 0)]
def vm_m189 : vm_M := (RX11, yX11_give, cX11_give, 5, (some .int), vm_k189)
def vm_k190 : List vm_I := [(0, .iload_n 1, 1, 0, 0, 0), (1, .invokestatic 150, 3, 1, 149, 1), (4, .ifCond .ne 5, 3, 0, 0, 0), (7, .iconst (-1), 1, 0, 0, 0), (8, .ireturn, 1, 0, 0, 0), (9, .aload_n 0, 1, 0, 0, 0), (10, .getfield 79, 3, 10, 9, 0), (13, .bipush 6, 2, 0, 0, 0), (15, .if_icmp .ne 6, 3, 0, 0, 0), (18, .bipush (-3), 2, 0, 0, 0), (20, .ireturn, 1, 0, 0, 0), (21, .aload_n 0, 1, 0, 0, 0), (22, .getfield 28, 3, 10, 8, 0), (25, .aload_n 0, 1, 0, 0, 0), (26, .getfield 79, 3, 10, 9, 0), (29, .iload_n 1, 1, 0, 0, 0), (30, .iastore, 1, 0, 0, 0), (31, .aload_n 0, 1, 0, 0, 0), (32, .dup, 1, 0, 0, 0), (33, .getfield 79, 3, 10, 9, 0), (36, .iconst 1, 1, 0, 0, 0), (37, .iadd, 1, 0, 0, 0), (38, .putfield 79, 3, 10, 9, 0), (41, .aload_n 0, 1, 0, 0, 0), (42, .getfield 79, 3, 10, 9, 0), (45, .ireturn, 1, 0, 0, 0)]
def vm_m190 : vm_M := (RX11, yX11_see, cX11_see, 2, (some .int), vm_k190)
def vm_k191 : List vm_I := [(0, .aload_n 0, 1, 0, 0, 0), (1, .getfield 79, 3, 10, 9, 0), (4, .istore_n 1, 1, 0, 0, 0), (5, .aload_n 0, 1, 0, 0, 0), (6, .iconst 0, 1, 0, 0, 0), (7, .putfield 79, 3, 10, 9, 0), (10, .iload_n 1, 1, 0, 0, 0), (11, .ireturn, 1, 0, 0, 0)]
def vm_m191 : vm_M := (RX11, yX11_forget, cX11_forget, 2, (some .int), vm_k191)
def vm_k192 : List vm_I := [(0, .aload_n 0, 1, 0, 0, 0), (1, .iload_n 1, 1, 0, 0, 0), (2, .invokevirtual 159, 3, 0, 150, 1001), (5, .ifCond .ne 5, 3, 0, 0, 0), (8, .iconst (-1), 1, 0, 0, 0), (9, .ireturn, 1, 0, 0, 0), (10, .aload_n 0, 1, 0, 0, 0), (11, .iload_n 1, 1, 0, 0, 0), (12, .invokevirtual 199, 3, 0, 159, 1001), (15, .ifCond .ne 6, 3, 0, 0, 0), (18, .bipush (-2), 2, 0, 0, 0), (20, .ireturn, 1, 0, 0, 0), (21, .iconst 0, 1, 0, 0, 0), (22, .istore_n 2, 1, 0, 0, 0), (23, .iconst 0, 1, 0, 0, 0), (24, .istore_n 3, 1, 0, 0, 0), (25, .iload_n 3, 1, 0, 0, 0), (26, .aload_n 0, 1, 0, 0, 0), (27, .getfield 7, 3, 10, 0, 0), (30, .iconst 0, 1, 0, 0, 0), (31, .iaload, 1, 0, 0, 0), (32, .if_icmp .ge 68, 3, 0, 0, 0), (35, .iload_n 3, 1, 0, 0, 0), (36, .istore 4, 2, 0, 0, 0), (38, .iconst 0, 1, 0, 0, 0), (39, .istore 5, 2, 0, 0, 0), (41, .iload 5, 2, 0, 0, 0), (43, .aload_n 0, 1, 0, 0, 0), (44, .getfield 79, 3, 10, 9, 0), (47, .if_icmp .ge 24, 3, 0, 0, 0), (50, .aload_n 0, 1, 0, 0, 0), (51, .iload 4, 2, 0, 0, 0), (53, .aload_n 0, 1, 0, 0, 0), (54, .getfield 28, 3, 10, 8, 0), (57, .iload 5, 2, 0, 0, 0), (59, .iaload, 1, 0, 0, 0), (60, .invokevirtual 222, 3, 0, 152, 1002), (63, .istore 4, 2, 0, 0, 0), (65, .iinc 5 1, 3, 0, 0, 0), (68, .goto (-27), 3, 0, 0, 0), (71, .iload_n 2, 1, 0, 0, 0), (72, .iload 4, 2, 0, 0, 0), (74, .aload_n 0, 1, 0, 0, 0), (75, .getfield 16, 3, 10, 2, 0), (78, .iconst 4, 1, 0, 0, 0), (79, .iload_n 1, 1, 0, 0, 0), (80, .iadd, 1, 0, 0, 0), (81, .iaload, 1, 0, 0, 0), (82, .if_icmp .ne 9, 3, 0, 0, 0), (85, .iconst 1, 1, 0, 0, 0), (86, .iload_n 3, 1, 0, 0, 0), (87, .ishl, 1, 0, 0, 0), (88, .goto 4, 3, 0, 0, 0), (91, .iconst 0, 1, 0, 0, 0), (92, .ior, 1, 0, 0, 0), (93, .istore_n 2, 1, 0, 0, 0), (94, .iinc 3 1, 3, 0, 0, 0), (97, .goto (-72), 3, 0, 0, 0), (100, .iload_n 2, 1, 0, 0, 0), (101, .ireturn, 1, 0, 0, 0)]
def vm_m192 : vm_M := (RX11, yX11_from, cX11_from, 6, (some .int), vm_k192)
def vm_k193 : List vm_I := [(0, .aload_n 0, 1, 0, 0, 0), (1, .iload_n 1, 1, 0, 0, 0), (2, .invokevirtual 159, 3, 0, 150, 1001), (5, .ifCond .eq 23, 3, 0, 0, 0), (8, .aload_n 0, 1, 0, 0, 0), (9, .iload_n 2, 1, 0, 0, 0), (10, .invokevirtual 147, 3, 0, 148, 1001), (13, .ifCond .eq 15, 3, 0, 0, 0), (16, .iload_n 3, 1, 0, 0, 0), (17, .i2l, 1, 0, 0, 0), (18, .lconst 0, 1, 0, 0, 0), (19, .ldc2_w 244, 3, 11, 0, 0), (22, .invokestatic 86, 3, 1, 128, 3), (25, .ifCond .ne 5, 3, 0, 0, 0), (28, .iconst (-1), 1, 0, 0, 0), (29, .ireturn, 1, 0, 0, 0), (30, .aload_n 0, 1, 0, 0, 0), (31, .iload_n 1, 1, 0, 0, 0), (32, .invokevirtual 199, 3, 0, 159, 1001), (35, .ifCond .ne 6, 3, 0, 0, 0), (38, .bipush (-2), 2, 0, 0, 0), (40, .ireturn, 1, 0, 0, 0), (41, .iconst 0, 1, 0, 0, 0), (42, .istore 4, 2, 0, 0, 0), (44, .iload 4, 2, 0, 0, 0), (46, .bipush 9, 2, 0, 0, 0), (48, .if_icmp .ge 27, 3, 0, 0, 0), (51, .aload_n 0, 1, 0, 0, 0), (52, .getfield 55, 3, 10, 21, 0), (55, .iload 4, 2, 0, 0, 0), (57, .iload 4, 2, 0, 0, 0), (59, .iload_n 2, 1, 0, 0, 0), (60, .if_icmp .ne 7, 3, 0, 0, 0), (63, .iconst 1, 1, 0, 0, 0), (64, .goto 4, 3, 0, 0, 0), (67, .iconst 0, 1, 0, 0, 0), (68, .iastore, 1, 0, 0, 0), (69, .iinc 4 1, 3, 0, 0, 0), (72, .goto (-28), 3, 0, 0, 0), (75, .iconst 0, 1, 0, 0, 0), (76, .istore 4, 2, 0, 0, 0), (78, .iload 4, 2, 0, 0, 0), (80, .iload_n 3, 1, 0, 0, 0), (81, .if_icmp .ge 106, 3, 0, 0, 0), (84, .iconst 0, 1, 0, 0, 0), (85, .istore 5, 2, 0, 0, 0), (87, .iload 5, 2, 0, 0, 0), (89, .bipush 9, 2, 0, 0, 0), (91, .if_icmp .ge 17, 3, 0, 0, 0), (94, .aload_n 0, 1, 0, 0, 0), (95, .getfield 58, 3, 10, 22, 0), (98, .iload 5, 2, 0, 0, 0), (100, .iconst 0, 1, 0, 0, 0), (101, .iastore, 1, 0, 0, 0), (102, .iinc 5 1, 3, 0, 0, 0), (105, .goto (-18), 3, 0, 0, 0), (108, .iconst 0, 1, 0, 0, 0), (109, .istore 5, 2, 0, 0, 0), (111, .iload 5, 2, 0, 0, 0), (113, .aload_n 0, 1, 0, 0, 0), (114, .getfield 7, 3, 10, 0, 0), (117, .iconst 0, 1, 0, 0, 0), (118, .iaload, 1, 0, 0, 0), (119, .if_icmp .ge 47, 3, 0, 0, 0), (122, .iconst 0, 1, 0, 0, 0), (123, .istore 6, 2, 0, 0, 0), (125, .iload 6, 2, 0, 0, 0), (127, .iconst 4, 1, 0, 0, 0), (128, .if_icmp .ge 32, 3, 0, 0, 0), (131, .aload_n 0, 1, 0, 0, 0), (132, .getfield 58, 3, 10, 22, 0), (135, .aload_n 0, 1, 0, 0, 0), (136, .iload 5, 2, 0, 0, 0), (138, .iload 6, 2, 0, 0, 0), (140, .invokevirtual 222, 3, 0, 152, 1002), (143, .dup2, 1, 0, 0, 0), (144, .iaload, 1, 0, 0, 0), (145, .aload_n 0, 1, 0, 0, 0), (146, .getfield 55, 3, 10, 21, 0), (149, .iload 5, 2, 0, 0, 0), (151, .iaload, 1, 0, 0, 0), (152, .iadd, 1, 0, 0, 0), (153, .iastore, 1, 0, 0, 0), (154, .iinc 6 1, 3, 0, 0, 0), (157, .goto (-32), 3, 0, 0, 0), (160, .iinc 5 1, 3, 0, 0, 0), (163, .goto (-52), 3, 0, 0, 0), (166, .aload_n 0, 1, 0, 0, 0), (167, .getfield 58, 3, 10, 22, 0), (170, .iconst 0, 1, 0, 0, 0), (171, .aload_n 0, 1, 0, 0, 0), (172, .getfield 55, 3, 10, 21, 0), (175, .iconst 0, 1, 0, 0, 0), (176, .bipush 9, 2, 0, 0, 0), (178, .invokestatic 137, 3, 1, 130, 5), (181, .iinc 4 1, 3, 0, 0, 0), (184, .goto (-106), 3, 0, 0, 0), (187, .aload_n 0, 1, 0, 0, 0), (188, .getfield 55, 3, 10, 21, 0), (191, .aload_n 0, 1, 0, 0, 0), (192, .getfield 16, 3, 10, 2, 0), (195, .iconst 4, 1, 0, 0, 0), (196, .iload_n 1, 1, 0, 0, 0), (197, .iadd, 1, 0, 0, 0), (198, .iaload, 1, 0, 0, 0), (199, .iaload, 1, 0, 0, 0), (200, .ireturn, 1, 0, 0, 0)]
def vm_m193 : vm_M := (RX11, yX11_rows, cX11_rows, 7, (some .int), vm_k193)
def vm_k194 : List vm_I := [(0, .lload_n 0, 1, 0, 0, 0), (1, .lstore 5, 2, 0, 0, 0), (3, .lload_n 2, 1, 0, 0, 0), (4, .lstore 7, 2, 0, 0, 0), (6, .lload 7, 2, 0, 0, 0), (8, .lconst 0, 1, 0, 0, 0), (9, .lcmp, 1, 0, 0, 0), (10, .ifCond .eq 21, 3, 0, 0, 0), (13, .lload 5, 2, 0, 0, 0), (15, .lload 7, 2, 0, 0, 0), (17, .lrem, 1, 0, 0, 0), (18, .lstore 9, 2, 0, 0, 0), (20, .lload 7, 2, 0, 0, 0), (22, .lstore 5, 2, 0, 0, 0), (24, .lload 9, 2, 0, 0, 0), (26, .lstore 7, 2, 0, 0, 0), (28, .goto (-22), 3, 0, 0, 0), (31, .iload 4, 2, 0, 0, 0), (33, .ifCond .ne 10, 3, 0, 0, 0), (36, .lload_n 0, 1, 0, 0, 0), (37, .lload 5, 2, 0, 0, 0), (39, .ldiv, 1, 0, 0, 0), (40, .goto 7, 3, 0, 0, 0), (43, .lload_n 2, 1, 0, 0, 0), (44, .lload 5, 2, 0, 0, 0), (46, .ldiv, 1, 0, 0, 0), (47, .l2i, 1, 0, 0, 0), (48, .ireturn, 1, 0, 0, 0)]
def vm_m194 : vm_M := (RX11, yX11_lowest, cX11_lowest, 11, (some .int), vm_k194)
def vm_k195 : List vm_I := [(0, .aload_n 0, 1, 0, 0, 0), (1, .iload_n 1, 1, 0, 0, 0), (2, .invokevirtual 159, 3, 0, 150, 1001), (5, .ifCond .eq 38, 3, 0, 0, 0), (8, .iload_n 2, 1, 0, 0, 0), (9, .i2l, 1, 0, 0, 0), (10, .lconst 0, 1, 0, 0, 0), (11, .ldc2_w 244, 3, 11, 0, 0), (14, .invokestatic 86, 3, 1, 128, 3), (17, .ifCond .eq 26, 3, 0, 0, 0), (20, .iload_n 3, 1, 0, 0, 0), (21, .i2l, 1, 0, 0, 0), (22, .lconst 0, 1, 0, 0, 0), (23, .ldc2_w 246, 3, 12, 0, 0), (26, .invokestatic 86, 3, 1, 128, 3), (29, .ifCond .eq 14, 3, 0, 0, 0), (32, .iload 4, 2, 0, 0, 0), (34, .i2l, 1, 0, 0, 0), (35, .lconst 0, 1, 0, 0, 0), (36, .lconst 1, 1, 0, 0, 0), (37, .invokestatic 86, 3, 1, 128, 3), (40, .ifCond .ne 5, 3, 0, 0, 0), (43, .iconst (-1), 1, 0, 0, 0), (44, .ireturn, 1, 0, 0, 0), (45, .lconst 0, 1, 0, 0, 0), (46, .lstore 5, 2, 0, 0, 0), (48, .lconst 1, 1, 0, 0, 0), (49, .lstore 7, 2, 0, 0, 0), (51, .iconst 0, 1, 0, 0, 0), (52, .istore 9, 2, 0, 0, 0), (54, .iload 9, 2, 0, 0, 0), (56, .iload_n 2, 1, 0, 0, 0), (57, .if_icmp .ge 17, 3, 0, 0, 0), (60, .lload 7, 2, 0, 0, 0), (62, .ldc2_w 246, 3, 12, 0, 0), (65, .lmul, 1, 0, 0, 0), (66, .lstore 7, 2, 0, 0, 0), (68, .iinc 9 1, 3, 0, 0, 0), (71, .goto (-17), 3, 0, 0, 0), (74, .iconst 0, 1, 0, 0, 0), (75, .istore 9, 2, 0, 0, 0), (77, .iload 9, 2, 0, 0, 0), (79, .iconst 1, 1, 0, 0, 0), (80, .iload_n 2, 1, 0, 0, 0), (81, .ishl, 1, 0, 0, 0), (82, .if_icmp .ge 133, 3, 0, 0, 0), (85, .lconst 1, 1, 0, 0, 0), (86, .lstore 10, 2, 0, 0, 0), (88, .aload_n 0, 1, 0, 0, 0), (89, .getfield 16, 3, 10, 2, 0), (92, .iconst 0, 1, 0, 0, 0), (93, .iload_n 1, 1, 0, 0, 0), (94, .iadd, 1, 0, 0, 0), (95, .iaload, 1, 0, 0, 0), (96, .istore 12, 2, 0, 0, 0), (98, .iconst 0, 1, 0, 0, 0), (99, .istore 13, 2, 0, 0, 0), (101, .iload 13, 2, 0, 0, 0), (103, .iload_n 2, 1, 0, 0, 0), (104, .if_icmp .ge 89, 3, 0, 0, 0), (107, .lload 10, 2, 0, 0, 0), (109, .iload 9, 2, 0, 0, 0), (111, .iload 13, 2, 0, 0, 0), (113, .invokestatic 237, 3, 1, 129, 2), (116, .ifCond .eq 8, 3, 0, 0, 0), (119, .iload_n 3, 1, 0, 0, 0), (120, .i2l, 1, 0, 0, 0), (121, .goto 8, 3, 0, 0, 0), (124, .bipush 10, 2, 0, 0, 0), (126, .iload_n 3, 1, 0, 0, 0), (127, .isub, 1, 0, 0, 0), (128, .i2l, 1, 0, 0, 0), (129, .lmul, 1, 0, 0, 0), (130, .lstore 10, 2, 0, 0, 0), (132, .iload 12, 2, 0, 0, 0), (134, .ifCond .ne 7, 3, 0, 0, 0), (137, .iconst 0, 1, 0, 0, 0), (138, .goto 47, 3, 0, 0, 0), (141, .iload 12, 2, 0, 0, 0), (143, .aload_n 0, 1, 0, 0, 0), (144, .getfield 16, 3, 10, 2, 0), (147, .bipush 24, 2, 0, 0, 0), (149, .iload_n 1, 1, 0, 0, 0), (150, .iadd, 1, 0, 0, 0), (151, .iaload, 1, 0, 0, 0), (152, .aload_n 0, 1, 0, 0, 0), (153, .aload_n 0, 1, 0, 0, 0), (154, .getfield 16, 3, 10, 2, 0), (157, .bipush 32, 2, 0, 0, 0), (159, .iaload, 1, 0, 0, 0), (160, .iload 13, 2, 0, 0, 0), (162, .iadd, 1, 0, 0, 0), (163, .invokevirtual 155, 3, 0, 153, 1001), (166, .iload 9, 2, 0, 0, 0), (168, .iload 13, 2, 0, 0, 0), (170, .invokestatic 237, 3, 1, 129, 2), (173, .ifCond .eq 7, 3, 0, 0, 0), (176, .iconst 2, 1, 0, 0, 0), (177, .goto 4, 3, 0, 0, 0), (180, .iconst 0, 1, 0, 0, 0), (181, .iadd, 1, 0, 0, 0), (182, .invokestatic 168, 3, 1, 158, 3), (185, .istore 12, 2, 0, 0, 0), (187, .iinc 13 1, 3, 0, 0, 0), (190, .goto (-89), 3, 0, 0, 0), (193, .lload 5, 2, 0, 0, 0), (195, .iload 12, 2, 0, 0, 0), (197, .ifCond .le 8, 3, 0, 0, 0), (200, .lload 10, 2, 0, 0, 0), (202, .goto 4, 3, 0, 0, 0), (205, .lconst 0, 1, 0, 0, 0), (206, .ladd, 1, 0, 0, 0), (207, .lstore 5, 2, 0, 0, 0), (209, .iinc 9 1, 3, 0, 0, 0), (212, .goto (-135), 3, 0, 0, 0), (215, .lload 5, 2, 0, 0, 0), (217, .lload 7, 2, 0, 0, 0), (219, .iload 4, 2, 0, 0, 0), (221, .invokestatic 248, 3, 1, 194, 3), (224, .ireturn, 1, 0, 0, 0)]
def vm_m195 : vm_M := (RX11, yX11_rains, cX11_rains, 14, (some .int), vm_k195)
def vm_k196 : List vm_I := [(0, .iconst 0, 1, 0, 0, 0), (1, .istore_n 1, 1, 0, 0, 0), (2, .iconst 0, 1, 0, 0, 0), (3, .istore_n 2, 1, 0, 0, 0), (4, .iload_n 2, 1, 0, 0, 0), (5, .iconst 4, 1, 0, 0, 0), (6, .if_icmp .ge 18, 3, 0, 0, 0), (9, .iload_n 1, 1, 0, 0, 0), (10, .aload_n 0, 1, 0, 0, 0), (11, .bipush 28, 2, 0, 0, 0), (13, .iload_n 2, 1, 0, 0, 0), (14, .iadd, 1, 0, 0, 0), (15, .iaload, 1, 0, 0, 0), (16, .iadd, 1, 0, 0, 0), (17, .istore_n 1, 1, 0, 0, 0), (18, .iinc 2 1, 3, 0, 0, 0), (21, .goto (-17), 3, 0, 0, 0), (24, .iload_n 1, 1, 0, 0, 0), (25, .ireturn, 1, 0, 0, 0)]
def vm_m196 : vm_M := (RX11, yX11_toldIn, cX11_toldIn, 3, (some .int), vm_k196)
def vm_k197 : List vm_I := [(0, .iload_n 1, 1, 0, 0, 0), (1, .i2l, 1, 0, 0, 0), (2, .lconst 0, 1, 0, 0, 0), (3, .ldc2_w 252, 3, 13, 0, 0), (6, .invokestatic 86, 3, 1, 128, 3), (9, .ifCond .eq 25, 3, 0, 0, 0), (12, .iload_n 2, 1, 0, 0, 0), (13, .i2l, 1, 0, 0, 0), (14, .lconst 1, 1, 0, 0, 0), (15, .ldc2_w 254, 3, 14, 0, 0), (18, .invokestatic 86, 3, 1, 128, 3), (21, .ifCond .eq 13, 3, 0, 0, 0), (24, .iload_n 3, 1, 0, 0, 0), (25, .i2l, 1, 0, 0, 0), (26, .lconst 0, 1, 0, 0, 0), (27, .lconst 1, 1, 0, 0, 0), (28, .invokestatic 86, 3, 1, 128, 3), (31, .ifCond .ne 5, 3, 0, 0, 0), (34, .iconst (-1), 1, 0, 0, 0), (35, .ireturn, 1, 0, 0, 0), (36, .aload_n 0, 1, 0, 0, 0), (37, .getfield 16, 3, 10, 2, 0), (40, .iconst 0, 1, 0, 0, 0), (41, .aload_n 0, 1, 0, 0, 0), (42, .getfield 19, 3, 10, 3, 0), (45, .iconst 0, 1, 0, 0, 0), (46, .bipush 33, 2, 0, 0, 0), (48, .invokestatic 137, 3, 1, 130, 5), (51, .iconst 0, 1, 0, 0, 0), (52, .istore 4, 2, 0, 0, 0), (54, .iload 4, 2, 0, 0, 0), (56, .iload_n 2, 1, 0, 0, 0), (57, .if_icmp .ge 166, 3, 0, 0, 0), (60, .ldc2_w 256, 3, 0, 0, 0), (63, .iload_n 1, 1, 0, 0, 0), (64, .i2l, 1, 0, 0, 0), (65, .lmul, 1, 0, 0, 0), (66, .ldc2_w 258, 3, 1, 0, 0), (69, .iload 4, 2, 0, 0, 0), (71, .i2l, 1, 0, 0, 0), (72, .lmul, 1, 0, 0, 0), (73, .ladd, 1, 0, 0, 0), (74, .lconst 1, 1, 0, 0, 0), (75, .ladd, 1, 0, 0, 0), (76, .lstore 5, 2, 0, 0, 0), (78, .lload 5, 2, 0, 0, 0), (80, .lload 5, 2, 0, 0, 0), (82, .lmul, 1, 0, 0, 0), (83, .ldc2_w 260, 3, 2, 0, 0), (86, .lrem, 1, 0, 0, 0), (87, .l2i, 1, 0, 0, 0), (88, .istore 7, 2, 0, 0, 0), (90, .iload 7, 2, 0, 0, 0), (92, .bipush 8, 2, 0, 0, 0), (94, .irem, 1, 0, 0, 0), (95, .istore 8, 2, 0, 0, 0), (97, .iload 7, 2, 0, 0, 0), (99, .bipush 8, 2, 0, 0, 0), (101, .idiv, 1, 0, 0, 0), (102, .aload_n 0, 1, 0, 0, 0), (103, .getfield 7, 3, 10, 0, 0), (106, .iconst 2, 1, 0, 0, 0), (107, .iaload, 1, 0, 0, 0), (108, .irem, 1, 0, 0, 0), (109, .istore 9, 2, 0, 0, 0), (111, .iload 7, 2, 0, 0, 0), (113, .bipush 64, 2, 0, 0, 0), (115, .idiv, 1, 0, 0, 0), (116, .aload_n 0, 1, 0, 0, 0), (117, .getfield 7, 3, 10, 0, 0), (120, .iconst 2, 1, 0, 0, 0), (121, .iaload, 1, 0, 0, 0), (122, .irem, 1, 0, 0, 0), (123, .istore 10, 2, 0, 0, 0), (125, .iload 7, 2, 0, 0, 0), (127, .bipush 64, 2, 0, 0, 0), (129, .idiv, 1, 0, 0, 0), (130, .iconst 4, 1, 0, 0, 0), (131, .irem, 1, 0, 0, 0), (132, .istore 11, 2, 0, 0, 0), (134, .iload 8, 2, 0, 0, 0), (136, .iconst 5, 1, 0, 0, 0), (137, .if_icmp .le 14, 3, 0, 0, 0), (140, .aload_n 0, 1, 0, 0, 0), (141, .aload_n 0, 1, 0, 0, 0), (142, .getfield 19, 3, 10, 3, 0), (145, .invokevirtual 185, 3, 0, 163, 1001), (148, .goto 69, 3, 0, 0, 0), (151, .iload 8, 2, 0, 0, 0), (153, .iconst 5, 1, 0, 0, 0), (154, .if_icmp .ne 31, 3, 0, 0, 0), (157, .aload_n 0, 1, 0, 0, 0), (158, .getfield 19, 3, 10, 3, 0), (161, .iload 9, 2, 0, 0, 0), (163, .iload 10, 2, 0, 0, 0), (165, .invokestatic 193, 3, 1, 168, 3), (168, .ifCond .eq 17, 3, 0, 0, 0), (171, .aload_n 0, 1, 0, 0, 0), (172, .getfield 19, 3, 10, 3, 0), (175, .iload 9, 2, 0, 0, 0), (177, .iload 10, 2, 0, 0, 0), (179, .invokestatic 196, 3, 1, 169, 3), (182, .goto 35, 3, 0, 0, 0), (185, .iload 8, 2, 0, 0, 0), (187, .iconst 5, 1, 0, 0, 0), (188, .if_icmp .ge 29, 3, 0, 0, 0), (191, .aload_n 0, 1, 0, 0, 0), (192, .getfield 19, 3, 10, 3, 0), (195, .iload 9, 2, 0, 0, 0), (197, .iload 11, 2, 0, 0, 0), (199, .invokestatic 172, 3, 1, 161, 3), (202, .ifCond .eq 15, 3, 0, 0, 0), (205, .aload_n 0, 1, 0, 0, 0), (206, .aload_n 0, 1, 0, 0, 0), (207, .getfield 19, 3, 10, 3, 0), (210, .iload 9, 2, 0, 0, 0), (212, .iload 11, 2, 0, 0, 0), (214, .invokevirtual 179, 3, 0, 162, 1003), (217, .iinc 4 1, 3, 0, 0, 0), (220, .goto (-166), 3, 0, 0, 0), (223, .iload_n 3, 1, 0, 0, 0), (224, .ifCond .ne 14, 3, 0, 0, 0), (227, .aload_n 0, 1, 0, 0, 0), (228, .aload_n 0, 1, 0, 0, 0), (229, .getfield 19, 3, 10, 3, 0), (232, .invokevirtual 189, 3, 0, 164, 1001), (235, .goto 18, 3, 0, 0, 0), (238, .aload_n 0, 1, 0, 0, 0), (239, .getfield 19, 3, 10, 3, 0), (242, .invokestatic 262, 3, 1, 196, 1), (245, .aload_n 0, 1, 0, 0, 0), (246, .getfield 16, 3, 10, 2, 0), (249, .invokestatic 262, 3, 1, 196, 1), (252, .isub, 1, 0, 0, 0), (253, .ireturn, 1, 0, 0, 0)]
def vm_m197 : vm_M := (RX11, yX11_winter, cX11_winter, 12, (some .int), vm_k197)
def vm_k198 : List vm_I := [(0, .aload_n 0, 1, 0, 0, 0), (1, .getfield 76, 3, 10, 7, 0), (4, .iconst 2, 1, 0, 0, 0), (5, .if_icmp .ne 6, 3, 0, 0, 0), (8, .bipush (-3), 2, 0, 0, 0), (10, .ireturn, 1, 0, 0, 0), (11, .aload_n 0, 1, 0, 0, 0), (12, .getfield 16, 3, 10, 2, 0), (15, .iconst 0, 1, 0, 0, 0), (16, .aload_n 0, 1, 0, 0, 0), (17, .getfield 25, 3, 10, 6, 0), (20, .bipush 33, 2, 0, 0, 0), (22, .aload_n 0, 1, 0, 0, 0), (23, .getfield 76, 3, 10, 7, 0), (26, .imul, 1, 0, 0, 0), (27, .bipush 33, 2, 0, 0, 0), (29, .invokestatic 137, 3, 1, 130, 5), (32, .aload_n 0, 1, 0, 0, 0), (33, .dup, 1, 0, 0, 0), (34, .getfield 76, 3, 10, 7, 0), (37, .iconst 1, 1, 0, 0, 0), (38, .iadd, 1, 0, 0, 0), (39, .putfield 76, 3, 10, 7, 0), (42, .aload_n 0, 1, 0, 0, 0), (43, .getfield 76, 3, 10, 7, 0), (46, .ireturn, 1, 0, 0, 0)]
def vm_m198 : vm_M := (RX11, yX11_keep, cX11_keep, 1, (some .int), vm_k198)
def vm_k199 : List vm_I := [(0, .aload_n 0, 1, 0, 0, 0), (1, .getfield 76, 3, 10, 7, 0), (4, .ifCond .ne 6, 3, 0, 0, 0), (7, .bipush (-2), 2, 0, 0, 0), (9, .ireturn, 1, 0, 0, 0), (10, .aload_n 0, 1, 0, 0, 0), (11, .dup, 1, 0, 0, 0), (12, .getfield 76, 3, 10, 7, 0), (15, .iconst 1, 1, 0, 0, 0), (16, .isub, 1, 0, 0, 0), (17, .putfield 76, 3, 10, 7, 0), (20, .aload_n 0, 1, 0, 0, 0), (21, .getfield 25, 3, 10, 6, 0), (24, .bipush 33, 2, 0, 0, 0), (26, .aload_n 0, 1, 0, 0, 0), (27, .getfield 76, 3, 10, 7, 0), (30, .imul, 1, 0, 0, 0), (31, .aload_n 0, 1, 0, 0, 0), (32, .getfield 16, 3, 10, 2, 0), (35, .iconst 0, 1, 0, 0, 0), (36, .bipush 33, 2, 0, 0, 0), (38, .invokestatic 137, 3, 1, 130, 5), (41, .aload_n 0, 1, 0, 0, 0), (42, .iconst 0, 1, 0, 0, 0), (43, .putfield 72, 3, 10, 5, 0), (46, .aload_n 0, 1, 0, 0, 0), (47, .getfield 76, 3, 10, 7, 0), (50, .ireturn, 1, 0, 0, 0)]
def vm_m199 : vm_M := (RX11, yX11_back, cX11_back, 1, (some .int), vm_k199)
def vm_k200 : List vm_I := [(0, .iconst 0, 1, 0, 0, 0), (1, .istore_n 1, 1, 0, 0, 0), (2, .iconst 0, 1, 0, 0, 0), (3, .istore_n 2, 1, 0, 0, 0), (4, .iload_n 2, 1, 0, 0, 0), (5, .bipush 16, 2, 0, 0, 0), (7, .if_icmp .ge 21, 3, 0, 0, 0), (10, .iload_n 1, 1, 0, 0, 0), (11, .aload_n 0, 1, 0, 0, 0), (12, .getfield 16, 3, 10, 2, 0), (15, .bipush 8, 2, 0, 0, 0), (17, .iload_n 2, 1, 0, 0, 0), (18, .iadd, 1, 0, 0, 0), (19, .iaload, 1, 0, 0, 0), (20, .iadd, 1, 0, 0, 0), (21, .istore_n 1, 1, 0, 0, 0), (22, .iinc 2 1, 3, 0, 0, 0), (25, .goto (-21), 3, 0, 0, 0), (28, .iload_n 1, 1, 0, 0, 0), (29, .ireturn, 1, 0, 0, 0)]
def vm_m200 : vm_M := (RX11, yX11_logsOfAll, cX11_logsOfAll, 3, (some .int), vm_k200)
def vm_k201 : List vm_I := [(0, .iload_n 1, 1, 0, 0, 0), (1, .tableswitch 119 0 9 #[55, 62, 69, 77, 86, 91, 99, 104, 109, 114], 55, 0, 0, 0), (56, .aload_n 0, 1, 0, 0, 0), (57, .getfield 7, 3, 10, 0, 0), (60, .iconst 0, 1, 0, 0, 0), (61, .iaload, 1, 0, 0, 0), (62, .ireturn, 1, 0, 0, 0), (63, .aload_n 0, 1, 0, 0, 0), (64, .getfield 7, 3, 10, 0, 0), (67, .iconst 2, 1, 0, 0, 0), (68, .iaload, 1, 0, 0, 0), (69, .ireturn, 1, 0, 0, 0), (70, .aload_n 0, 1, 0, 0, 0), (71, .getfield 16, 3, 10, 2, 0), (74, .bipush 32, 2, 0, 0, 0), (76, .iaload, 1, 0, 0, 0), (77, .ireturn, 1, 0, 0, 0), (78, .aload_n 0, 1, 0, 0, 0), (79, .aload_n 0, 1, 0, 0, 0), (80, .getfield 16, 3, 10, 2, 0), (83, .invokevirtual 189, 3, 0, 164, 1001), (86, .ireturn, 1, 0, 0, 0), (87, .aload_n 0, 1, 0, 0, 0), (88, .invokevirtual 265, 3, 0, 200, 1000), (91, .ireturn, 1, 0, 0, 0), (92, .aload_n 0, 1, 0, 0, 0), (93, .getfield 16, 3, 10, 2, 0), (96, .invokestatic 262, 3, 1, 196, 1), (99, .ireturn, 1, 0, 0, 0), (100, .aload_n 0, 1, 0, 0, 0), (101, .getfield 79, 3, 10, 9, 0), (104, .ireturn, 1, 0, 0, 0), (105, .aload_n 0, 1, 0, 0, 0), (106, .getfield 72, 3, 10, 5, 0), (109, .ireturn, 1, 0, 0, 0), (110, .aload_n 0, 1, 0, 0, 0), (111, .getfield 76, 3, 10, 7, 0), (114, .ireturn, 1, 0, 0, 0), (115, .aload_n 0, 1, 0, 0, 0), (116, .getfield 90, 3, 10, 11, 0), (119, .ireturn, 1, 0, 0, 0), (120, .iconst (-1), 1, 0, 0, 0), (121, .ireturn, 1, 0, 0, 0)]
def vm_m201 : vm_M := (RX11, yX11_count, cX11_count, 2, (some .int), vm_k201)
def vm_k202 : List vm_I := [(0, .iload_n 0, 1, 0, 0, 0), (1, .iload_n 1, 1, 0, 0, 0), (2, .if_icmp .lt 7, 3, 0, 0, 0), (5, .iload_n 0, 1, 0, 0, 0), (6, .goto 4, 3, 0, 0, 0), (9, .iload_n 1, 1, 0, 0, 0), (10, .ireturn, 1, 0, 0, 0)]
def vm_m202 : vm_M := ("java/lang/Math", Lib.Math.max.name, Lib.Math.max.code, 2, (some .int), vm_k202)
def vm_k203 : List vm_I := [(0, .iload_n 0, 1, 0, 0, 0), (1, .iload_n 1, 1, 0, 0, 0), (2, .if_icmp .gt 7, 3, 0, 0, 0), (5, .iload_n 0, 1, 0, 0, 0), (6, .goto 4, 3, 0, 0, 0), (9, .iload_n 1, 1, 0, 0, 0), (10, .ireturn, 1, 0, 0, 0)]
def vm_m203 : vm_M := ("java/lang/Math", Lib.Math.min.name, Lib.Math.min.code, 2, (some .int), vm_k203)
def vm_k204 : List vm_I := [(0, .iload_n 0, 1, 0, 0, 0), (1, .iload_n 1, 1, 0, 0, 0), (2, .irem, 1, 0, 0, 0), (3, .istore_n 2, 1, 0, 0, 0), (4, .iload_n 0, 1, 0, 0, 0), (5, .iload_n 1, 1, 0, 0, 0), (6, .ixor, 1, 0, 0, 0), (7, .ifCond .ge 11, 3, 0, 0, 0), (10, .iload_n 2, 1, 0, 0, 0), (11, .ifCond .eq 7, 3, 0, 0, 0), (14, .iload_n 2, 1, 0, 0, 0), (15, .iload_n 1, 1, 0, 0, 0), (16, .iadd, 1, 0, 0, 0), (17, .ireturn, 1, 0, 0, 0), (18, .iload_n 2, 1, 0, 0, 0), (19, .ireturn, 1, 0, 0, 0)]
def vm_m204 : vm_M := ("java/lang/Math", yJ9_floorMod_7cf53, cJ9_floorMod_7cf53, 3, (some .int), vm_k204)
def vm_k205 : List vm_I := [(0, .new 7, 3, 9, 0, 0), (3, .dup, 1, 0, 0, 0), (4, .invokespecial 9, 3, 2, 92, 0), (7, .astore_n 1, 1, 0, 0, 0), (8, .new 10, 3, 10, 0, 0), (11, .dup, 1, 0, 0, 0), (12, .invokespecial 12, 3, 2, 127, 0), (15, .astore_n 2, 1, 0, 0, 0), (16, .iconst 0, 1, 0, 0, 0), (17, .istore_n 3, 1, 0, 0, 0), (18, .iload_n 3, 1, 0, 0, 0), (19, .aload_n 0, 1, 0, 0, 0), (20, .arraylength, 1, 0, 0, 0), (21, .iconst 5, 1, 0, 0, 0), (22, .isub, 1, 0, 0, 0), (23, .if_icmp .gt 937, 3, 0, 0, 0), (26, .aload_n 0, 1, 0, 0, 0), (27, .iload_n 3, 1, 0, 0, 0), (28, .iaload, 1, 0, 0, 0), (29, .bipush 31, 2, 0, 0, 0), (31, .iand, 1, 0, 0, 0), (32, .tableswitch 922 0 27 #[128, 151, 164, 177, 190, 223, 246, 279, 312, 335, 368, 401, 444, 457, 480, 523, 566, 609, 632, 675, 698, 711, 734, 777, 830, 873, 886, 899], 128, 0, 0, 0), (160, .aload_n 1, 1, 0, 0, 0), (161, .aload_n 0, 1, 0, 0, 0), (162, .iload_n 3, 1, 0, 0, 0), (163, .iconst 1, 1, 0, 0, 0), (164, .iadd, 1, 0, 0, 0), (165, .iaload, 1, 0, 0, 0), (166, .invokevirtual 13, 3, 0, 93, 901), (169, .aload_n 2, 1, 0, 0, 0), (170, .aload_n 0, 1, 0, 0, 0), (171, .iload_n 3, 1, 0, 0, 0), (172, .iconst 1, 1, 0, 0, 0), (173, .iadd, 1, 0, 0, 0), (174, .iaload, 1, 0, 0, 0), (175, .invokevirtual 17, 3, 0, 134, 1001), (178, .if_icmp .eq 776, 3, 0, 0, 0), (181, .iconst 0, 1, 0, 0, 0), (182, .ireturn, 1, 0, 0, 0), (183, .aload_n 1, 1, 0, 0, 0), (184, .invokevirtual 18, 3, 0, 94, 900), (187, .aload_n 2, 1, 0, 0, 0), (188, .invokevirtual 22, 3, 0, 135, 1000), (191, .if_icmp .eq 763, 3, 0, 0, 0), (194, .iconst 0, 1, 0, 0, 0), (195, .ireturn, 1, 0, 0, 0), (196, .aload_n 1, 1, 0, 0, 0), (197, .invokevirtual 23, 3, 0, 95, 900), (200, .aload_n 2, 1, 0, 0, 0), (201, .invokevirtual 26, 3, 0, 145, 1000), (204, .if_icmp .eq 750, 3, 0, 0, 0), (207, .iconst 0, 1, 0, 0, 0), (208, .ireturn, 1, 0, 0, 0), (209, .aload_n 1, 1, 0, 0, 0), (210, .invokevirtual 27, 3, 0, 96, 900), (213, .aload_n 2, 1, 0, 0, 0), (214, .invokevirtual 30, 3, 0, 147, 1000), (217, .if_icmp .eq 737, 3, 0, 0, 0), (220, .iconst 0, 1, 0, 0, 0), (221, .ireturn, 1, 0, 0, 0), (222, .aload_n 1, 1, 0, 0, 0), (223, .aload_n 0, 1, 0, 0, 0), (224, .iload_n 3, 1, 0, 0, 0), (225, .iconst 1, 1, 0, 0, 0), (226, .iadd, 1, 0, 0, 0), (227, .iaload, 1, 0, 0, 0), (228, .aload_n 0, 1, 0, 0, 0), (229, .iload_n 3, 1, 0, 0, 0), (230, .iconst 2, 1, 0, 0, 0), (231, .iadd, 1, 0, 0, 0), (232, .iaload, 1, 0, 0, 0), (233, .invokevirtual 31, 3, 0, 97, 902), (236, .aload_n 2, 1, 0, 0, 0), (237, .aload_n 0, 1, 0, 0, 0), (238, .iload_n 3, 1, 0, 0, 0), (239, .iconst 1, 1, 0, 0, 0), (240, .iadd, 1, 0, 0, 0), (241, .iaload, 1, 0, 0, 0), (242, .aload_n 0, 1, 0, 0, 0), (243, .iload_n 3, 1, 0, 0, 0), (244, .iconst 2, 1, 0, 0, 0), (245, .iadd, 1, 0, 0, 0), (246, .iaload, 1, 0, 0, 0), (247, .invokevirtual 35, 3, 0, 154, 1002), (250, .if_icmp .eq 704, 3, 0, 0, 0), (253, .iconst 0, 1, 0, 0, 0), (254, .ireturn, 1, 0, 0, 0), (255, .aload_n 1, 1, 0, 0, 0), (256, .aload_n 0, 1, 0, 0, 0), (257, .iload_n 3, 1, 0, 0, 0), (258, .iconst 1, 1, 0, 0, 0), (259, .iadd, 1, 0, 0, 0), (260, .iaload, 1, 0, 0, 0), (261, .invokevirtual 36, 3, 0, 98, 901), (264, .aload_n 2, 1, 0, 0, 0), (265, .aload_n 0, 1, 0, 0, 0), (266, .iload_n 3, 1, 0, 0, 0), (267, .iconst 1, 1, 0, 0, 0), (268, .iadd, 1, 0, 0, 0), (269, .iaload, 1, 0, 0, 0), (270, .invokevirtual 39, 3, 0, 155, 1001), (273, .if_icmp .eq 681, 3, 0, 0, 0), (276, .iconst 0, 1, 0, 0, 0), (277, .ireturn, 1, 0, 0, 0), (278, .aload_n 1, 1, 0, 0, 0), (279, .aload_n 0, 1, 0, 0, 0), (280, .iload_n 3, 1, 0, 0, 0), (281, .iconst 1, 1, 0, 0, 0), (282, .iadd, 1, 0, 0, 0), (283, .iaload, 1, 0, 0, 0), (284, .aload_n 0, 1, 0, 0, 0), (285, .iload_n 3, 1, 0, 0, 0), (286, .iconst 2, 1, 0, 0, 0), (287, .iadd, 1, 0, 0, 0), (288, .iaload, 1, 0, 0, 0), (289, .invokevirtual 40, 3, 0, 99, 902), (292, .aload_n 2, 1, 0, 0, 0), (293, .aload_n 0, 1, 0, 0, 0), (294, .iload_n 3, 1, 0, 0, 0), (295, .iconst 1, 1, 0, 0, 0), (296, .iadd, 1, 0, 0, 0), (297, .iaload, 1, 0, 0, 0), (298, .aload_n 0, 1, 0, 0, 0), (299, .iload_n 3, 1, 0, 0, 0), (300, .iconst 2, 1, 0, 0, 0), (301, .iadd, 1, 0, 0, 0), (302, .iaload, 1, 0, 0, 0), (303, .invokevirtual 43, 3, 0, 156, 1002), (306, .if_icmp .eq 648, 3, 0, 0, 0), (309, .iconst 0, 1, 0, 0, 0), (310, .ireturn, 1, 0, 0, 0), (311, .aload_n 1, 1, 0, 0, 0), (312, .aload_n 0, 1, 0, 0, 0), (313, .iload_n 3, 1, 0, 0, 0), (314, .iconst 1, 1, 0, 0, 0), (315, .iadd, 1, 0, 0, 0), (316, .iaload, 1, 0, 0, 0), (317, .aload_n 0, 1, 0, 0, 0), (318, .iload_n 3, 1, 0, 0, 0), (319, .iconst 2, 1, 0, 0, 0), (320, .iadd, 1, 0, 0, 0), (321, .iaload, 1, 0, 0, 0), (322, .invokevirtual 44, 3, 0, 100, 902), (325, .aload_n 2, 1, 0, 0, 0), (326, .aload_n 0, 1, 0, 0, 0), (327, .iload_n 3, 1, 0, 0, 0), (328, .iconst 1, 1, 0, 0, 0), (329, .iadd, 1, 0, 0, 0), (330, .iaload, 1, 0, 0, 0), (331, .aload_n 0, 1, 0, 0, 0), (332, .iload_n 3, 1, 0, 0, 0), (333, .iconst 2, 1, 0, 0, 0), (334, .iadd, 1, 0, 0, 0), (335, .iaload, 1, 0, 0, 0), (336, .invokevirtual 47, 3, 0, 166, 1002), (339, .if_icmp .eq 615, 3, 0, 0, 0), (342, .iconst 0, 1, 0, 0, 0), (343, .ireturn, 1, 0, 0, 0), (344, .aload_n 1, 1, 0, 0, 0), (345, .aload_n 0, 1, 0, 0, 0), (346, .iload_n 3, 1, 0, 0, 0), (347, .iconst 1, 1, 0, 0, 0), (348, .iadd, 1, 0, 0, 0), (349, .iaload, 1, 0, 0, 0), (350, .invokevirtual 48, 3, 0, 101, 901), (353, .aload_n 2, 1, 0, 0, 0), (354, .aload_n 0, 1, 0, 0, 0), (355, .iload_n 3, 1, 0, 0, 0), (356, .iconst 1, 1, 0, 0, 0), (357, .iadd, 1, 0, 0, 0), (358, .iaload, 1, 0, 0, 0), (359, .invokevirtual 51, 3, 0, 167, 1001), (362, .if_icmp .eq 592, 3, 0, 0, 0), (365, .iconst 0, 1, 0, 0, 0), (366, .ireturn, 1, 0, 0, 0), (367, .aload_n 1, 1, 0, 0, 0), (368, .aload_n 0, 1, 0, 0, 0), (369, .iload_n 3, 1, 0, 0, 0), (370, .iconst 1, 1, 0, 0, 0), (371, .iadd, 1, 0, 0, 0), (372, .iaload, 1, 0, 0, 0), (373, .aload_n 0, 1, 0, 0, 0), (374, .iload_n 3, 1, 0, 0, 0), (375, .iconst 2, 1, 0, 0, 0), (376, .iadd, 1, 0, 0, 0), (377, .iaload, 1, 0, 0, 0), (378, .invokevirtual 52, 3, 0, 102, 902), (381, .aload_n 2, 1, 0, 0, 0), (382, .aload_n 0, 1, 0, 0, 0), (383, .iload_n 3, 1, 0, 0, 0), (384, .iconst 1, 1, 0, 0, 0), (385, .iadd, 1, 0, 0, 0), (386, .iaload, 1, 0, 0, 0), (387, .aload_n 0, 1, 0, 0, 0), (388, .iload_n 3, 1, 0, 0, 0), (389, .iconst 2, 1, 0, 0, 0), (390, .iadd, 1, 0, 0, 0), (391, .iaload, 1, 0, 0, 0), (392, .invokevirtual 55, 3, 0, 170, 1002), (395, .if_icmp .eq 559, 3, 0, 0, 0), (398, .iconst 0, 1, 0, 0, 0), (399, .ireturn, 1, 0, 0, 0), (400, .aload_n 1, 1, 0, 0, 0), (401, .aload_n 0, 1, 0, 0, 0), (402, .iload_n 3, 1, 0, 0, 0), (403, .iconst 1, 1, 0, 0, 0), (404, .iadd, 1, 0, 0, 0), (405, .iaload, 1, 0, 0, 0), (406, .aload_n 0, 1, 0, 0, 0), (407, .iload_n 3, 1, 0, 0, 0), (408, .iconst 2, 1, 0, 0, 0), (409, .iadd, 1, 0, 0, 0), (410, .iaload, 1, 0, 0, 0), (411, .invokevirtual 56, 3, 0, 103, 902), (414, .aload_n 2, 1, 0, 0, 0), (415, .aload_n 0, 1, 0, 0, 0), (416, .iload_n 3, 1, 0, 0, 0), (417, .iconst 1, 1, 0, 0, 0), (418, .iadd, 1, 0, 0, 0), (419, .iaload, 1, 0, 0, 0), (420, .aload_n 0, 1, 0, 0, 0), (421, .iload_n 3, 1, 0, 0, 0), (422, .iconst 2, 1, 0, 0, 0), (423, .iadd, 1, 0, 0, 0), (424, .iaload, 1, 0, 0, 0), (425, .invokevirtual 59, 3, 0, 171, 1002), (428, .if_icmp .eq 526, 3, 0, 0, 0), (431, .iconst 0, 1, 0, 0, 0), (432, .ireturn, 1, 0, 0, 0), (433, .aload_n 1, 1, 0, 0, 0), (434, .aload_n 0, 1, 0, 0, 0), (435, .iload_n 3, 1, 0, 0, 0), (436, .iconst 1, 1, 0, 0, 0), (437, .iadd, 1, 0, 0, 0), (438, .iaload, 1, 0, 0, 0), (439, .aload_n 0, 1, 0, 0, 0), (440, .iload_n 3, 1, 0, 0, 0), (441, .iconst 2, 1, 0, 0, 0), (442, .iadd, 1, 0, 0, 0), (443, .iaload, 1, 0, 0, 0), (444, .aload_n 0, 1, 0, 0, 0), (445, .iload_n 3, 1, 0, 0, 0), (446, .iconst 3, 1, 0, 0, 0), (447, .iadd, 1, 0, 0, 0), (448, .iaload, 1, 0, 0, 0), (449, .invokevirtual 60, 3, 0, 104, 903), (452, .aload_n 2, 1, 0, 0, 0), (453, .aload_n 0, 1, 0, 0, 0), (454, .iload_n 3, 1, 0, 0, 0), (455, .iconst 1, 1, 0, 0, 0), (456, .iadd, 1, 0, 0, 0), (457, .iaload, 1, 0, 0, 0), (458, .aload_n 0, 1, 0, 0, 0), (459, .iload_n 3, 1, 0, 0, 0), (460, .iconst 2, 1, 0, 0, 0), (461, .iadd, 1, 0, 0, 0), (462, .iaload, 1, 0, 0, 0), (463, .aload_n 0, 1, 0, 0, 0), (464, .iload_n 3, 1, 0, 0, 0), (465, .iconst 3, 1, 0, 0, 0), (466, .iadd, 1, 0, 0, 0), (467, .iaload, 1, 0, 0, 0), (468, .invokevirtual 64, 3, 0, 173, 1003), (471, .if_icmp .eq 483, 3, 0, 0, 0), (474, .iconst 0, 1, 0, 0, 0), (475, .ireturn, 1, 0, 0, 0), (476, .aload_n 1, 1, 0, 0, 0), (477, .invokevirtual 65, 3, 0, 105, 900), (480, .aload_n 2, 1, 0, 0, 0), (481, .invokevirtual 68, 3, 0, 174, 1000), (484, .if_icmp .eq 470, 3, 0, 0, 0), (487, .iconst 0, 1, 0, 0, 0), (488, .ireturn, 1, 0, 0, 0), (489, .aload_n 1, 1, 0, 0, 0), (490, .aload_n 0, 1, 0, 0, 0), (491, .iload_n 3, 1, 0, 0, 0), (492, .iconst 1, 1, 0, 0, 0), (493, .iadd, 1, 0, 0, 0), (494, .iaload, 1, 0, 0, 0), (495, .invokevirtual 69, 3, 0, 106, 901), (498, .aload_n 2, 1, 0, 0, 0), (499, .aload_n 0, 1, 0, 0, 0), (500, .iload_n 3, 1, 0, 0, 0), (501, .iconst 1, 1, 0, 0, 0), (502, .iadd, 1, 0, 0, 0), (503, .iaload, 1, 0, 0, 0), (504, .invokevirtual 72, 3, 0, 175, 1001), (507, .if_icmp .eq 447, 3, 0, 0, 0), (510, .iconst 0, 1, 0, 0, 0), (511, .ireturn, 1, 0, 0, 0), (512, .aload_n 1, 1, 0, 0, 0), (513, .aload_n 0, 1, 0, 0, 0), (514, .iload_n 3, 1, 0, 0, 0), (515, .iconst 1, 1, 0, 0, 0), (516, .iadd, 1, 0, 0, 0), (517, .iaload, 1, 0, 0, 0), (518, .aload_n 0, 1, 0, 0, 0), (519, .iload_n 3, 1, 0, 0, 0), (520, .iconst 2, 1, 0, 0, 0), (521, .iadd, 1, 0, 0, 0), (522, .iaload, 1, 0, 0, 0), (523, .aload_n 0, 1, 0, 0, 0), (524, .iload_n 3, 1, 0, 0, 0), (525, .iconst 3, 1, 0, 0, 0), (526, .iadd, 1, 0, 0, 0), (527, .iaload, 1, 0, 0, 0), (528, .invokevirtual 73, 3, 0, 107, 903), (531, .aload_n 2, 1, 0, 0, 0), (532, .aload_n 0, 1, 0, 0, 0), (533, .iload_n 3, 1, 0, 0, 0), (534, .iconst 1, 1, 0, 0, 0), (535, .iadd, 1, 0, 0, 0), (536, .iaload, 1, 0, 0, 0), (537, .aload_n 0, 1, 0, 0, 0), (538, .iload_n 3, 1, 0, 0, 0), (539, .iconst 2, 1, 0, 0, 0), (540, .iadd, 1, 0, 0, 0), (541, .iaload, 1, 0, 0, 0), (542, .aload_n 0, 1, 0, 0, 0), (543, .iload_n 3, 1, 0, 0, 0), (544, .iconst 3, 1, 0, 0, 0), (545, .iadd, 1, 0, 0, 0), (546, .iaload, 1, 0, 0, 0), (547, .invokevirtual 76, 3, 0, 180, 1003), (550, .if_icmp .eq 404, 3, 0, 0, 0), (553, .iconst 0, 1, 0, 0, 0), (554, .ireturn, 1, 0, 0, 0), (555, .aload_n 1, 1, 0, 0, 0), (556, .aload_n 0, 1, 0, 0, 0), (557, .iload_n 3, 1, 0, 0, 0), (558, .iconst 1, 1, 0, 0, 0), (559, .iadd, 1, 0, 0, 0), (560, .iaload, 1, 0, 0, 0), (561, .aload_n 0, 1, 0, 0, 0), (562, .iload_n 3, 1, 0, 0, 0), (563, .iconst 2, 1, 0, 0, 0), (564, .iadd, 1, 0, 0, 0), (565, .iaload, 1, 0, 0, 0), (566, .aload_n 0, 1, 0, 0, 0), (567, .iload_n 3, 1, 0, 0, 0), (568, .iconst 3, 1, 0, 0, 0), (569, .iadd, 1, 0, 0, 0), (570, .iaload, 1, 0, 0, 0), (571, .invokevirtual 77, 3, 0, 108, 903), (574, .aload_n 2, 1, 0, 0, 0), (575, .aload_n 0, 1, 0, 0, 0), (576, .iload_n 3, 1, 0, 0, 0), (577, .iconst 1, 1, 0, 0, 0), (578, .iadd, 1, 0, 0, 0), (579, .iaload, 1, 0, 0, 0), (580, .aload_n 0, 1, 0, 0, 0), (581, .iload_n 3, 1, 0, 0, 0), (582, .iconst 2, 1, 0, 0, 0), (583, .iadd, 1, 0, 0, 0), (584, .iaload, 1, 0, 0, 0), (585, .aload_n 0, 1, 0, 0, 0), (586, .iload_n 3, 1, 0, 0, 0), (587, .iconst 3, 1, 0, 0, 0), (588, .iadd, 1, 0, 0, 0), (589, .iaload, 1, 0, 0, 0), (590, .invokevirtual 80, 3, 0, 183, 1003), (593, .if_icmp .eq 361, 3, 0, 0, 0), (596, .iconst 0, 1, 0, 0, 0), (597, .ireturn, 1, 0, 0, 0), (598, .aload_n 1, 1, 0, 0, 0), (599, .aload_n 0, 1, 0, 0, 0), (600, .iload_n 3, 1, 0, 0, 0), (601, .iconst 1, 1, 0, 0, 0), (602, .iadd, 1, 0, 0, 0), (603, .iaload, 1, 0, 0, 0), (604, .aload_n 0, 1, 0, 0, 0), (605, .iload_n 3, 1, 0, 0, 0), (606, .iconst 2, 1, 0, 0, 0), (607, .iadd, 1, 0, 0, 0), (608, .iaload, 1, 0, 0, 0), (609, .aload_n 0, 1, 0, 0, 0), (610, .iload_n 3, 1, 0, 0, 0), (611, .iconst 3, 1, 0, 0, 0), (612, .iadd, 1, 0, 0, 0), (613, .iaload, 1, 0, 0, 0), (614, .invokevirtual 81, 3, 0, 109, 903), (617, .aload_n 2, 1, 0, 0, 0), (618, .aload_n 0, 1, 0, 0, 0), (619, .iload_n 3, 1, 0, 0, 0), (620, .iconst 1, 1, 0, 0, 0), (621, .iadd, 1, 0, 0, 0), (622, .iaload, 1, 0, 0, 0), (623, .aload_n 0, 1, 0, 0, 0), (624, .iload_n 3, 1, 0, 0, 0), (625, .iconst 2, 1, 0, 0, 0), (626, .iadd, 1, 0, 0, 0), (627, .iaload, 1, 0, 0, 0), (628, .aload_n 0, 1, 0, 0, 0), (629, .iload_n 3, 1, 0, 0, 0), (630, .iconst 3, 1, 0, 0, 0), (631, .iadd, 1, 0, 0, 0), (632, .iaload, 1, 0, 0, 0), (633, .invokevirtual 84, 3, 0, 186, 1003), (636, .if_icmp .eq 318, 3, 0, 0, 0), (639, .iconst 0, 1, 0, 0, 0), (640, .ireturn, 1, 0, 0, 0), (641, .aload_n 1, 1, 0, 0, 0), (642, .aload_n 0, 1, 0, 0, 0), (643, .iload_n 3, 1, 0, 0, 0), (644, .iconst 1, 1, 0, 0, 0), (645, .iadd, 1, 0, 0, 0), (646, .iaload, 1, 0, 0, 0), (647, .invokevirtual 85, 3, 0, 110, 901), (650, .aload_n 2, 1, 0, 0, 0), (651, .aload_n 0, 1, 0, 0, 0), (652, .iload_n 3, 1, 0, 0, 0), (653, .iconst 1, 1, 0, 0, 0), (654, .iadd, 1, 0, 0, 0), (655, .iaload, 1, 0, 0, 0), (656, .invokevirtual 88, 3, 0, 187, 1001), (659, .if_icmp .eq 295, 3, 0, 0, 0), (662, .iconst 0, 1, 0, 0, 0), (663, .ireturn, 1, 0, 0, 0), (664, .aload_n 1, 1, 0, 0, 0), (665, .aload_n 0, 1, 0, 0, 0), (666, .iload_n 3, 1, 0, 0, 0), (667, .iconst 1, 1, 0, 0, 0), (668, .iadd, 1, 0, 0, 0), (669, .iaload, 1, 0, 0, 0), (670, .aload_n 0, 1, 0, 0, 0), (671, .iload_n 3, 1, 0, 0, 0), (672, .iconst 2, 1, 0, 0, 0), (673, .iadd, 1, 0, 0, 0), (674, .iaload, 1, 0, 0, 0), (675, .aload_n 0, 1, 0, 0, 0), (676, .iload_n 3, 1, 0, 0, 0), (677, .iconst 3, 1, 0, 0, 0), (678, .iadd, 1, 0, 0, 0), (679, .iaload, 1, 0, 0, 0), (680, .invokevirtual 89, 3, 0, 111, 903), (683, .aload_n 2, 1, 0, 0, 0), (684, .aload_n 0, 1, 0, 0, 0), (685, .iload_n 3, 1, 0, 0, 0), (686, .iconst 1, 1, 0, 0, 0), (687, .iadd, 1, 0, 0, 0), (688, .iaload, 1, 0, 0, 0), (689, .aload_n 0, 1, 0, 0, 0), (690, .iload_n 3, 1, 0, 0, 0), (691, .iconst 2, 1, 0, 0, 0), (692, .iadd, 1, 0, 0, 0), (693, .iaload, 1, 0, 0, 0), (694, .aload_n 0, 1, 0, 0, 0), (695, .iload_n 3, 1, 0, 0, 0), (696, .iconst 3, 1, 0, 0, 0), (697, .iadd, 1, 0, 0, 0), (698, .iaload, 1, 0, 0, 0), (699, .invokevirtual 92, 3, 0, 189, 1003), (702, .if_icmp .eq 252, 3, 0, 0, 0), (705, .iconst 0, 1, 0, 0, 0), (706, .ireturn, 1, 0, 0, 0), (707, .aload_n 1, 1, 0, 0, 0), (708, .aload_n 0, 1, 0, 0, 0), (709, .iload_n 3, 1, 0, 0, 0), (710, .iconst 1, 1, 0, 0, 0), (711, .iadd, 1, 0, 0, 0), (712, .iaload, 1, 0, 0, 0), (713, .invokevirtual 93, 3, 0, 112, 901), (716, .aload_n 2, 1, 0, 0, 0), (717, .aload_n 0, 1, 0, 0, 0), (718, .iload_n 3, 1, 0, 0, 0), (719, .iconst 1, 1, 0, 0, 0), (720, .iadd, 1, 0, 0, 0), (721, .iaload, 1, 0, 0, 0), (722, .invokevirtual 96, 3, 0, 190, 1001), (725, .if_icmp .eq 229, 3, 0, 0, 0), (728, .iconst 0, 1, 0, 0, 0), (729, .ireturn, 1, 0, 0, 0), (730, .aload_n 1, 1, 0, 0, 0), (731, .invokevirtual 97, 3, 0, 113, 900), (734, .aload_n 2, 1, 0, 0, 0), (735, .invokevirtual 100, 3, 0, 191, 1000), (738, .if_icmp .eq 216, 3, 0, 0, 0), (741, .iconst 0, 1, 0, 0, 0), (742, .ireturn, 1, 0, 0, 0), (743, .aload_n 1, 1, 0, 0, 0), (744, .aload_n 0, 1, 0, 0, 0), (745, .iload_n 3, 1, 0, 0, 0), (746, .iconst 1, 1, 0, 0, 0), (747, .iadd, 1, 0, 0, 0), (748, .iaload, 1, 0, 0, 0), (749, .invokevirtual 101, 3, 0, 114, 901), (752, .aload_n 2, 1, 0, 0, 0), (753, .aload_n 0, 1, 0, 0, 0), (754, .iload_n 3, 1, 0, 0, 0), (755, .iconst 1, 1, 0, 0, 0), (756, .iadd, 1, 0, 0, 0), (757, .iaload, 1, 0, 0, 0), (758, .invokevirtual 104, 3, 0, 192, 1001), (761, .if_icmp .eq 193, 3, 0, 0, 0), (764, .iconst 0, 1, 0, 0, 0), (765, .ireturn, 1, 0, 0, 0), (766, .aload_n 1, 1, 0, 0, 0), (767, .aload_n 0, 1, 0, 0, 0), (768, .iload_n 3, 1, 0, 0, 0), (769, .iconst 1, 1, 0, 0, 0), (770, .iadd, 1, 0, 0, 0), (771, .iaload, 1, 0, 0, 0), (772, .aload_n 0, 1, 0, 0, 0), (773, .iload_n 3, 1, 0, 0, 0), (774, .iconst 2, 1, 0, 0, 0), (775, .iadd, 1, 0, 0, 0), (776, .iaload, 1, 0, 0, 0), (777, .aload_n 0, 1, 0, 0, 0), (778, .iload_n 3, 1, 0, 0, 0), (779, .iconst 3, 1, 0, 0, 0), (780, .iadd, 1, 0, 0, 0), (781, .iaload, 1, 0, 0, 0), (782, .invokevirtual 105, 3, 0, 115, 903), (785, .aload_n 2, 1, 0, 0, 0), (786, .aload_n 0, 1, 0, 0, 0), (787, .iload_n 3, 1, 0, 0, 0), (788, .iconst 1, 1, 0, 0, 0), (789, .iadd, 1, 0, 0, 0), (790, .iaload, 1, 0, 0, 0), (791, .aload_n 0, 1, 0, 0, 0), (792, .iload_n 3, 1, 0, 0, 0), (793, .iconst 2, 1, 0, 0, 0), (794, .iadd, 1, 0, 0, 0), (795, .iaload, 1, 0, 0, 0), (796, .aload_n 0, 1, 0, 0, 0), (797, .iload_n 3, 1, 0, 0, 0), (798, .iconst 3, 1, 0, 0, 0), (799, .iadd, 1, 0, 0, 0), (800, .iaload, 1, 0, 0, 0), (801, .invokevirtual 108, 3, 0, 193, 1003), (804, .if_icmp .eq 150, 3, 0, 0, 0), (807, .iconst 0, 1, 0, 0, 0), (808, .ireturn, 1, 0, 0, 0), (809, .aload_n 1, 1, 0, 0, 0), (810, .aload_n 0, 1, 0, 0, 0), (811, .iload_n 3, 1, 0, 0, 0), (812, .iconst 1, 1, 0, 0, 0), (813, .iadd, 1, 0, 0, 0), (814, .iaload, 1, 0, 0, 0), (815, .aload_n 0, 1, 0, 0, 0), (816, .iload_n 3, 1, 0, 0, 0), (817, .iconst 2, 1, 0, 0, 0), (818, .iadd, 1, 0, 0, 0), (819, .iaload, 1, 0, 0, 0), (820, .aload_n 0, 1, 0, 0, 0), (821, .iload_n 3, 1, 0, 0, 0), (822, .iconst 3, 1, 0, 0, 0), (823, .iadd, 1, 0, 0, 0), (824, .iaload, 1, 0, 0, 0), (825, .aload_n 0, 1, 0, 0, 0), (826, .iload_n 3, 1, 0, 0, 0), (827, .iconst 4, 1, 0, 0, 0), (828, .iadd, 1, 0, 0, 0), (829, .iaload, 1, 0, 0, 0), (830, .invokevirtual 109, 3, 0, 116, 904), (833, .aload_n 2, 1, 0, 0, 0), (834, .aload_n 0, 1, 0, 0, 0), (835, .iload_n 3, 1, 0, 0, 0), (836, .iconst 1, 1, 0, 0, 0), (837, .iadd, 1, 0, 0, 0), (838, .iaload, 1, 0, 0, 0), (839, .aload_n 0, 1, 0, 0, 0), (840, .iload_n 3, 1, 0, 0, 0), (841, .iconst 2, 1, 0, 0, 0), (842, .iadd, 1, 0, 0, 0), (843, .iaload, 1, 0, 0, 0), (844, .aload_n 0, 1, 0, 0, 0), (845, .iload_n 3, 1, 0, 0, 0), (846, .iconst 3, 1, 0, 0, 0), (847, .iadd, 1, 0, 0, 0), (848, .iaload, 1, 0, 0, 0), (849, .aload_n 0, 1, 0, 0, 0), (850, .iload_n 3, 1, 0, 0, 0), (851, .iconst 4, 1, 0, 0, 0), (852, .iadd, 1, 0, 0, 0), (853, .iaload, 1, 0, 0, 0), (854, .invokevirtual 113, 3, 0, 195, 1004), (857, .if_icmp .eq 97, 3, 0, 0, 0), (860, .iconst 0, 1, 0, 0, 0), (861, .ireturn, 1, 0, 0, 0), (862, .aload_n 1, 1, 0, 0, 0), (863, .aload_n 0, 1, 0, 0, 0), (864, .iload_n 3, 1, 0, 0, 0), (865, .iconst 1, 1, 0, 0, 0), (866, .iadd, 1, 0, 0, 0), (867, .iaload, 1, 0, 0, 0), (868, .aload_n 0, 1, 0, 0, 0), (869, .iload_n 3, 1, 0, 0, 0), (870, .iconst 2, 1, 0, 0, 0), (871, .iadd, 1, 0, 0, 0), (872, .iaload, 1, 0, 0, 0), (873, .aload_n 0, 1, 0, 0, 0), (874, .iload_n 3, 1, 0, 0, 0), (875, .iconst 3, 1, 0, 0, 0), (876, .iadd, 1, 0, 0, 0), (877, .iaload, 1, 0, 0, 0), (878, .invokevirtual 114, 3, 0, 117, 903), (881, .aload_n 2, 1, 0, 0, 0), (882, .aload_n 0, 1, 0, 0, 0), (883, .iload_n 3, 1, 0, 0, 0), (884, .iconst 1, 1, 0, 0, 0), (885, .iadd, 1, 0, 0, 0), (886, .iaload, 1, 0, 0, 0), (887, .aload_n 0, 1, 0, 0, 0), (888, .iload_n 3, 1, 0, 0, 0), (889, .iconst 2, 1, 0, 0, 0), (890, .iadd, 1, 0, 0, 0), (891, .iaload, 1, 0, 0, 0), (892, .aload_n 0, 1, 0, 0, 0), (893, .iload_n 3, 1, 0, 0, 0), (894, .iconst 3, 1, 0, 0, 0), (895, .iadd, 1, 0, 0, 0), (896, .iaload, 1, 0, 0, 0), (897, .invokevirtual 117, 3, 0, 197, 1003), (900, .if_icmp .eq 54, 3, 0, 0, 0), (903, .iconst 0, 1, 0, 0, 0), (904, .ireturn, 1, 0, 0, 0), (905, .aload_n 1, 1, 0, 0, 0), (906, .invokevirtual 118, 3, 0, 118, 900), (909, .aload_n 2, 1, 0, 0, 0), (910, .invokevirtual 121, 3, 0, 198, 1000), (913, .if_icmp .eq 41, 3, 0, 0, 0), (916, .iconst 0, 1, 0, 0, 0), (917, .ireturn, 1, 0, 0, 0), (918, .aload_n 1, 1, 0, 0, 0), (919, .invokevirtual 122, 3, 0, 119, 900), (922, .aload_n 2, 1, 0, 0, 0), (923, .invokevirtual 125, 3, 0, 199, 1000), (926, .if_icmp .eq 28, 3, 0, 0, 0), (929, .iconst 0, 1, 0, 0, 0), (930, .ireturn, 1, 0, 0, 0), (931, .aload_n 1, 1, 0, 0, 0), (932, .aload_n 0, 1, 0, 0, 0), (933, .iload_n 3, 1, 0, 0, 0), (934, .iconst 1, 1, 0, 0, 0), (935, .iadd, 1, 0, 0, 0), (936, .iaload, 1, 0, 0, 0), (937, .invokevirtual 126, 3, 0, 120, 901), (940, .aload_n 2, 1, 0, 0, 0), (941, .aload_n 0, 1, 0, 0, 0), (942, .iload_n 3, 1, 0, 0, 0), (943, .iconst 1, 1, 0, 0, 0), (944, .iadd, 1, 0, 0, 0), (945, .iaload, 1, 0, 0, 0), (946, .invokevirtual 129, 3, 0, 201, 1001), (949, .if_icmp .eq 5, 3, 0, 0, 0), (952, .iconst 0, 1, 0, 0, 0), (953, .ireturn, 1, 0, 0, 0), (954, .iinc 3 5, 3, 0, 0, 0), (957, .goto (-939), 3, 0, 0, 0), (960, .iconst 1, 1, 0, 0, 0), (961, .ireturn, 1, 0, 0, 0)]
def vm_m205 : vm_M := (RL, x, code, 4, (some .boolean), vm_k205)
def vm_MT : List vm_M := [vm_m0, vm_m1, vm_m2, vm_m3, vm_m4, vm_m5, vm_m6, vm_m7, vm_m8, vm_m9, vm_m10, vm_m11, vm_m12, vm_m13, vm_m14, vm_m15, vm_m16, vm_m17, vm_m18, vm_m19, vm_m20, vm_m21, vm_m22, vm_m23, vm_m24, vm_m25, vm_m26, vm_m27, vm_m28, vm_m29, vm_m30, vm_m31, vm_m32, vm_m33, vm_m34, vm_m35, vm_m36, vm_m37, vm_m38, vm_m39, vm_m40, vm_m41, vm_m42, vm_m43, vm_m44, vm_m45, vm_m46, vm_m47, vm_m48, vm_m49, vm_m50, vm_m51, vm_m52, vm_m53, vm_m54, vm_m55, vm_m56, vm_m57, vm_m58, vm_m59, vm_m60, vm_m61, vm_m62, vm_m63, vm_m64, vm_m65, vm_m66, vm_m67, vm_m68, vm_m69, vm_m70, vm_m71, vm_m72, vm_m73, vm_m74, vm_m75, vm_m76, vm_m77, vm_m78, vm_m79, vm_m80, vm_m81, vm_m82, vm_m83, vm_m84, vm_m85, vm_m86, vm_m87, vm_m88, vm_m89, vm_m90, vm_m91, vm_m92, vm_m93, vm_m94, vm_m95, vm_m96, vm_m97, vm_m98, vm_m99, vm_m100, vm_m101, vm_m102, vm_m103, vm_m104, vm_m105, vm_m106, vm_m107, vm_m108, vm_m109, vm_m110, vm_m111, vm_m112, vm_m113, vm_m114, vm_m115, vm_m116, vm_m117, vm_m118, vm_m119, vm_m120, vm_m121, vm_m122, vm_m123, vm_m124, vm_m125, vm_m126, vm_m127, vm_m128, vm_m129, vm_m130, vm_m131, vm_m132, vm_m133, vm_m134, vm_m135, vm_m136, vm_m137, vm_m138, vm_m139, vm_m140, vm_m141, vm_m142, vm_m143, vm_m144, vm_m145, vm_m146, vm_m147, vm_m148, vm_m149, vm_m150, vm_m151, vm_m152, vm_m153, vm_m154, vm_m155, vm_m156, vm_m157, vm_m158, vm_m159, vm_m160, vm_m161, vm_m162, vm_m163, vm_m164, vm_m165, vm_m166, vm_m167, vm_m168, vm_m169, vm_m170, vm_m171, vm_m172, vm_m173, vm_m174, vm_m175, vm_m176, vm_m177, vm_m178, vm_m179, vm_m180, vm_m181, vm_m182, vm_m183, vm_m184, vm_m185, vm_m186, vm_m187, vm_m188, vm_m189, vm_m190, vm_m191, vm_m192, vm_m193, vm_m194, vm_m195, vm_m196, vm_m197, vm_m198, vm_m199, vm_m200, vm_m201, vm_m202, vm_m203, vm_m204, vm_m205]
end
section
/-! the checks: every instruction is what its bytes decode to -/
def vm_dec (c : ByteArray) (q : vm_I) : Prop := decode c q.1 = .ok (q.2.1, q.2.2.1)
theorem vm_d0 : ∀ q ∈ vm_k0, decode cX0_init q.1 = .ok (q.2.1, q.2.2.1) := by decide +kernel
theorem vm_d1 : ∀ q ∈ vm_k1, decode cX0_clear q.1 = .ok (q.2.1, q.2.2.1) := by decide +kernel
theorem vm_d2 : ∀ q ∈ vm_k2, decode cX0_become q.1 = .ok (q.2.1, q.2.2.1) := by decide +kernel
theorem vm_d3 : ∀ q ∈ vm_k3, decode cX0_addCompany q.1 = .ok (q.2.1, q.2.2.1) := by decide +kernel
theorem vm_d4 : ∀ q ∈ vm_k4, decode cX0_companies q.1 = .ok (q.2.1, q.2.2.1) := by decide +kernel
theorem vm_d5 : ∀ q ∈ vm_k5, decode cX0_hours q.1 = .ok (q.2.1, q.2.2.1) := by decide +kernel
theorem vm_d6 : ∀ q ∈ vm_k6, decode cX0_isCompany q.1 = .ok (q.2.1, q.2.2.1) := by decide +kernel
theorem vm_d7 : ∀ q ∈ vm_k7, decode cX0_get q.1 = .ok (q.2.1, q.2.2.1) := by decide +kernel
theorem vm_d8 : ∀ q ∈ vm_k8, decode cX0_set q.1 = .ok (q.2.1, q.2.2.1) := by decide +kernel
theorem vm_d9 : ∀ q ∈ vm_k9, decode cX0_change q.1 = .ok (q.2.1, q.2.2.1) := by decide +kernel
theorem vm_d10 : ∀ q ∈ vm_k10, decode cX0_isIn q.1 = .ok (q.2.1, q.2.2.1) := by decide +kernel
theorem vm_d11 : ∀ q ∈ vm_k11, decode cX0_canFeed q.1 = .ok (q.2.1, q.2.2.1) := by decide +kernel
theorem vm_d12 : ∀ q ∈ vm_k12, decode cX0_feed q.1 = .ok (q.2.1, q.2.2.1) := by decide +kernel
theorem vm_d13 : ∀ q ∈ vm_k13, decode cX0_setHot q.1 = .ok (q.2.1, q.2.2.1) := by decide +kernel
theorem vm_d14 : ∀ q ∈ vm_k14, decode cX0_burnAnHour q.1 = .ok (q.2.1, q.2.2.1) := by decide +kernel
theorem vm_d15 : ∀ q ∈ vm_k15, decode cX0_canKindle q.1 = .ok (q.2.1, q.2.2.1) := by decide +kernel
theorem vm_d16 : ∀ q ∈ vm_k16, decode cX0_kindle q.1 = .ok (q.2.1, q.2.2.1) := by decide +kernel
theorem vm_d17 : ∀ q ∈ vm_k17, decode cX0_merge q.1 = .ok (q.2.1, q.2.2.1) := by decide +kernel
theorem vm_d18 : ∀ q ∈ vm_k18, decode cX0_canMove q.1 = .ok (q.2.1, q.2.2.1) := by decide +kernel
theorem vm_d19 : ∀ q ∈ vm_k19, decode cX0_move q.1 = .ok (q.2.1, q.2.2.1) := by decide +kernel
theorem vm_d20 : ∀ q ∈ vm_k20, decode cX0_hoursLeft q.1 = .ok (q.2.1, q.2.2.1) := by decide +kernel
theorem vm_d21 : ∀ q ∈ vm_k21, decode cX0_meetDraw q.1 = .ok (q.2.1, q.2.2.1) := by decide +kernel
theorem vm_d22 : ∀ q ∈ vm_k22, decode cX0_firesIn q.1 = .ok (q.2.1, q.2.2.1) := by decide +kernel
theorem vm_d23 : ∀ q ∈ vm_k23, decode cX0_allLogs q.1 = .ok (q.2.1, q.2.2.1) := by decide +kernel
theorem vm_d24 : ∀ q ∈ vm_k24, decode cX0_linesTold q.1 = .ok (q.2.1, q.2.2.1) := by decide +kernel
theorem vm_d25 : ∀ q ∈ vm_k25, decode cX1_init q.1 = .ok (q.2.1, q.2.2.1) := by decide +kernel
theorem vm_d26 : ∀ q ∈ vm_k26, decode cX1_ofBeingIn q.1 = .ok (q.2.1, q.2.2.1) := by decide +kernel
theorem vm_d27 : ∀ q ∈ vm_k27, decode cX1_burn q.1 = .ok (q.2.1, q.2.2.1) := by decide +kernel
theorem vm_d28 : ∀ q ∈ vm_k28, decode cX1_addWays q.1 = .ok (q.2.1, q.2.2.1) := by decide +kernel
theorem vm_d29 : ∀ q ∈ vm_k29, decode cX1_commonDivisor q.1 = .ok (q.2.1, q.2.2.1) := by decide +kernel
theorem vm_d30 : ∀ q ∈ vm_k30, decode cX2_fed q.1 = .ok (q.2.1, q.2.2.1) := by decide +kernel
theorem vm_d31 : ∀ q ∈ vm_k31, decode cX2_burnt q.1 = .ok (q.2.1, q.2.2.1) := by decide +kernel
theorem vm_d32 : ∀ q ∈ vm_k32, decode cX2_heatOf q.1 = .ok (q.2.1, q.2.2.1) := by decide +kernel
theorem vm_d33 : ∀ q ∈ vm_k33, decode cX3_init q.1 = .ok (q.2.1, q.2.2.1) := by decide +kernel
theorem vm_d34 : ∀ q ∈ vm_k34, decode cX3_fewest q.1 = .ok (q.2.1, q.2.2.1) := by decide +kernel
theorem vm_d35 : ∀ q ∈ vm_k35, decode cX3_woodAhead q.1 = .ok (q.2.1, q.2.2.1) := by decide +kernel
theorem vm_d36 : ∀ q ∈ vm_k36, decode cX3_isKept q.1 = .ok (q.2.1, q.2.2.1) := by decide +kernel
theorem vm_d37 : ∀ q ∈ vm_k37, decode cX3_isKeptBy q.1 = .ok (q.2.1, q.2.2.1) := by decide +kernel
theorem vm_d38 : ∀ q ∈ vm_k38, decode cX4_init q.1 = .ok (q.2.1, q.2.2.1) := by decide +kernel
theorem vm_d39 : ∀ q ∈ vm_k39, decode cX4_shortest q.1 = .ok (q.2.1, q.2.2.1) := by decide +kernel
theorem vm_d40 : ∀ q ∈ vm_k40, decode cX4_woodAt q.1 = .ok (q.2.1, q.2.2.1) := by decide +kernel
theorem vm_d41 : ∀ q ∈ vm_k41, decode cX4_reach q.1 = .ok (q.2.1, q.2.2.1) := by decide +kernel
theorem vm_d42 : ∀ q ∈ vm_k42, decode cX4_traceBack q.1 = .ok (q.2.1, q.2.2.1) := by decide +kernel
theorem vm_d43 : ∀ q ∈ vm_k43, decode cX5_init q.1 = .ok (q.2.1, q.2.2.1) := by decide +kernel
theorem vm_d44 : ∀ q ∈ vm_k44, decode cX5_tale q.1 = .ok (q.2.1, q.2.2.1) := by decide +kernel
theorem vm_d45 : ∀ q ∈ vm_k45, decode cX5_camp q.1 = .ok (q.2.1, q.2.2.1) := by decide +kernel
theorem vm_d46 : ∀ q ∈ vm_k46, decode cX5_readAWhole q.1 = .ok (q.2.1, q.2.2.1) := by decide +kernel
theorem vm_d47 : ∀ q ∈ vm_k47, decode cX5_firstFault q.1 = .ok (q.2.1, q.2.2.1) := by decide +kernel
theorem vm_d48 : ∀ q ∈ vm_k48, decode cX5_readItem q.1 = .ok (q.2.1, q.2.2.1) := by decide +kernel
theorem vm_d49 : ∀ q ∈ vm_k49, decode cX5_readFigures q.1 = .ok (q.2.1, q.2.2.1) := by decide +kernel
theorem vm_d50 : ∀ q ∈ vm_k50, decode cX5_readNumbers q.1 = .ok (q.2.1, q.2.2.1) := by decide +kernel
theorem vm_d51 : ∀ q ∈ vm_k51, decode cX5_readNumber q.1 = .ok (q.2.1, q.2.2.1) := by decide +kernel
theorem vm_d52 : ∀ q ∈ vm_k52, decode cX5_take q.1 = .ok (q.2.1, q.2.2.1) := by decide +kernel
theorem vm_d53 : ∀ q ∈ vm_k53, decode cX5_figureOf q.1 = .ok (q.2.1, q.2.2.1) := by decide +kernel
theorem vm_d54 : ∀ q ∈ vm_k54, decode cX6_init q.1 = .ok (q.2.1, q.2.2.1) := by decide +kernel
theorem vm_d55 : ∀ q ∈ vm_k55, decode cX6_size q.1 = .ok (q.2.1, q.2.2.1) := by decide +kernel
theorem vm_d56 : ∀ q ∈ vm_k56, decode cX6_isFull q.1 = .ok (q.2.1, q.2.2.1) := by decide +kernel
theorem vm_d57 : ∀ q ∈ vm_k57, decode cX6_clear q.1 = .ok (q.2.1, q.2.2.1) := by decide +kernel
theorem vm_d58 : ∀ q ∈ vm_k58, decode cX6_add q.1 = .ok (q.2.1, q.2.2.1) := by decide +kernel
theorem vm_d59 : ∀ q ∈ vm_k59, decode cX6_get q.1 = .ok (q.2.1, q.2.2.1) := by decide +kernel
theorem vm_d60 : ∀ q ∈ vm_k60, decode cX6_set q.1 = .ok (q.2.1, q.2.2.1) := by decide +kernel
theorem vm_d61 : ∀ q ∈ vm_k61, decode cX6_fill q.1 = .ok (q.2.1, q.2.2.1) := by decide +kernel
theorem vm_d62 : ∀ q ∈ vm_k62, decode cX6_become q.1 = .ok (q.2.1, q.2.2.1) := by decide +kernel
theorem vm_d63 : ∀ q ∈ vm_k63, decode cX7_init q.1 = .ok (q.2.1, q.2.2.1) := by decide +kernel
theorem vm_d64 : ∀ q ∈ vm_k64, decode cX7_size q.1 = .ok (q.2.1, q.2.2.1) := by decide +kernel
theorem vm_d65 : ∀ q ∈ vm_k65, decode cX7_isFull q.1 = .ok (q.2.1, q.2.2.1) := by decide +kernel
theorem vm_d66 : ∀ q ∈ vm_k66, decode cX7_clear q.1 = .ok (q.2.1, q.2.2.1) := by decide +kernel
theorem vm_d67 : ∀ q ∈ vm_k67, decode cX7_push q.1 = .ok (q.2.1, q.2.2.1) := by decide +kernel
theorem vm_d68 : ∀ q ∈ vm_k68, decode cX7_pop q.1 = .ok (q.2.1, q.2.2.1) := by decide +kernel
theorem vm_d69 : ∀ q ∈ vm_k69, decode cX7_slotOf q.1 = .ok (q.2.1, q.2.2.1) := by decide +kernel
theorem vm_d70 : ∀ q ∈ vm_k70, decode cX8_init q.1 = .ok (q.2.1, q.2.2.1) := by decide +kernel
theorem vm_d71 : ∀ q ∈ vm_k71, decode cX8_clear q.1 = .ok (q.2.1, q.2.2.1) := by decide +kernel
theorem vm_d72 : ∀ q ∈ vm_k72, decode cX8_become q.1 = .ok (q.2.1, q.2.2.1) := by decide +kernel
theorem vm_d73 : ∀ q ∈ vm_k73, decode cX8_addLine q.1 = .ok (q.2.1, q.2.2.1) := by decide +kernel
theorem vm_d74 : ∀ q ∈ vm_k74, decode cX8_addRain q.1 = .ok (q.2.1, q.2.2.1) := by decide +kernel
theorem vm_d75 : ∀ q ∈ vm_k75, decode cX8_lines q.1 = .ok (q.2.1, q.2.2.1) := by decide +kernel
theorem vm_d76 : ∀ q ∈ vm_k76, decode cX8_isLine q.1 = .ok (q.2.1, q.2.2.1) := by decide +kernel
theorem vm_d77 : ∀ q ∈ vm_k77, decode cX8_tellsAllItNames q.1 = .ok (q.2.1, q.2.2.1) := by decide +kernel
theorem vm_d78 : ∀ q ∈ vm_k78, decode cX8_behind q.1 = .ok (q.2.1, q.2.2.1) := by decide +kernel
theorem vm_d79 : ∀ q ∈ vm_k79, decode cX8_comingFrom q.1 = .ok (q.2.1, q.2.2.1) := by decide +kernel
theorem vm_d80 : ∀ q ∈ vm_k80, decode cX8_rainAt q.1 = .ok (q.2.1, q.2.2.1) := by decide +kernel
theorem vm_d81 : ∀ q ∈ vm_k81, decode cX8_reached q.1 = .ok (q.2.1, q.2.2.1) := by decide +kernel
theorem vm_d82 : ∀ q ∈ vm_k82, decode cX8_oneStepOn q.1 = .ok (q.2.1, q.2.2.1) := by decide +kernel
theorem vm_d83 : ∀ q ∈ vm_k83, decode cX8_origins q.1 = .ok (q.2.1, q.2.2.1) := by decide +kernel
theorem vm_d84 : ∀ q ∈ vm_k84, decode cX8_endOf q.1 = .ok (q.2.1, q.2.2.1) := by decide +kernel
theorem vm_d85 : ∀ q ∈ vm_k85, decode cX8_waysBetween q.1 = .ok (q.2.1, q.2.2.1) := by decide +kernel
theorem vm_d86 : ∀ q ∈ vm_k86, decode cX8_lengthenWays q.1 = .ok (q.2.1, q.2.2.1) := by decide +kernel
theorem vm_d87 : ∀ q ∈ vm_k87, decode cX9_init q.1 = .ok (q.2.1, q.2.2.1) := by decide +kernel
theorem vm_d88 : ∀ q ∈ vm_k88, decode cX9_fewest q.1 = .ok (q.2.1, q.2.2.1) := by decide +kernel
theorem vm_d89 : ∀ q ∈ vm_k89, decode cX9_woodAt q.1 = .ok (q.2.1, q.2.2.1) := by decide +kernel
theorem vm_d90 : ∀ q ∈ vm_k90, decode cX9_isTold q.1 = .ok (q.2.1, q.2.2.1) := by decide +kernel
theorem vm_d91 : ∀ q ∈ vm_k91, decode cX9_isToldBy q.1 = .ok (q.2.1, q.2.2.1) := by decide +kernel
theorem vm_d92 : ∀ q ∈ vm_k92, decode cX10_init q.1 = .ok (q.2.1, q.2.2.1) := by decide +kernel
theorem vm_d93 : ∀ q ∈ vm_k93, decode cX10_write q.1 = .ok (q.2.1, q.2.2.1) := by decide +kernel
theorem vm_d94 : ∀ q ∈ vm_k94, decode cX10_wipe q.1 = .ok (q.2.1, q.2.2.1) := by decide +kernel
theorem vm_d95 : ∀ q ∈ vm_k95, decode cX10_fault q.1 = .ok (q.2.1, q.2.2.1) := by decide +kernel
theorem vm_d96 : ∀ q ∈ vm_k96, decode cX10_lay q.1 = .ok (q.2.1, q.2.2.1) := by decide +kernel
theorem vm_d97 : ∀ q ∈ vm_k97, decode cX10_line q.1 = .ok (q.2.1, q.2.2.1) := by decide +kernel
theorem vm_d98 : ∀ q ∈ vm_k98, decode cX10_rain q.1 = .ok (q.2.1, q.2.2.1) := by decide +kernel
theorem vm_d99 : ∀ q ∈ vm_k99, decode cX10_company q.1 = .ok (q.2.1, q.2.2.1) := by decide +kernel
theorem vm_d100 : ∀ q ∈ vm_k100, decode cX10_put q.1 = .ok (q.2.1, q.2.2.1) := by decide +kernel
theorem vm_d101 : ∀ q ∈ vm_k101, decode cX10_pass q.1 = .ok (q.2.1, q.2.2.1) := by decide +kernel
theorem vm_d102 : ∀ q ∈ vm_k102, decode cX10_light q.1 = .ok (q.2.1, q.2.2.1) := by decide +kernel
theorem vm_d103 : ∀ q ∈ vm_k103, decode cX10_join q.1 = .ok (q.2.1, q.2.2.1) := by decide +kernel
theorem vm_d104 : ∀ q ∈ vm_k104, decode cX10_hand q.1 = .ok (q.2.1, q.2.2.1) := by decide +kernel
theorem vm_d105 : ∀ q ∈ vm_k105, decode cX10_undo q.1 = .ok (q.2.1, q.2.2.1) := by decide +kernel
theorem vm_d106 : ∀ q ∈ vm_k106, decode cX10_lasts q.1 = .ok (q.2.1, q.2.2.1) := by decide +kernel
theorem vm_d107 : ∀ q ∈ vm_k107, decode cX10_stays q.1 = .ok (q.2.1, q.2.2.1) := by decide +kernel
theorem vm_d108 : ∀ q ∈ vm_k108, decode cX10_tell q.1 = .ok (q.2.1, q.2.2.1) := by decide +kernel
theorem vm_d109 : ∀ q ∈ vm_k109, decode cX10_meet q.1 = .ok (q.2.1, q.2.2.1) := by decide +kernel
theorem vm_d110 : ∀ q ∈ vm_k110, decode cX10_can q.1 = .ok (q.2.1, q.2.2.1) := by decide +kernel
theorem vm_d111 : ∀ q ∈ vm_k111, decode cX10_give q.1 = .ok (q.2.1, q.2.2.1) := by decide +kernel
theorem vm_d112 : ∀ q ∈ vm_k112, decode cX10_see q.1 = .ok (q.2.1, q.2.2.1) := by decide +kernel
theorem vm_d113 : ∀ q ∈ vm_k113, decode cX10_forget q.1 = .ok (q.2.1, q.2.2.1) := by decide +kernel
theorem vm_d114 : ∀ q ∈ vm_k114, decode cX10_from q.1 = .ok (q.2.1, q.2.2.1) := by decide +kernel
theorem vm_d115 : ∀ q ∈ vm_k115, decode cX10_rows q.1 = .ok (q.2.1, q.2.2.1) := by decide +kernel
theorem vm_d116 : ∀ q ∈ vm_k116, decode cX10_rains q.1 = .ok (q.2.1, q.2.2.1) := by decide +kernel
theorem vm_d117 : ∀ q ∈ vm_k117, decode cX10_winter q.1 = .ok (q.2.1, q.2.2.1) := by decide +kernel
theorem vm_d118 : ∀ q ∈ vm_k118, decode cX10_keep q.1 = .ok (q.2.1, q.2.2.1) := by decide +kernel
theorem vm_d119 : ∀ q ∈ vm_k119, decode cX10_back q.1 = .ok (q.2.1, q.2.2.1) := by decide +kernel
theorem vm_d120 : ∀ q ∈ vm_k120, decode cX10_count q.1 = .ok (q.2.1, q.2.2.1) := by decide +kernel
theorem vm_d121 : ∀ q ∈ vm_k121, decode cX10_layText q.1 = .ok (q.2.1, q.2.2.1) := by decide +kernel
theorem vm_d122 : ∀ q ∈ vm_k122, decode cX10_wouldHelp q.1 = .ok (q.2.1, q.2.2.1) := by decide +kernel
theorem vm_d123 : ∀ q ∈ vm_k123, decode cX10_areTwo q.1 = .ok (q.2.1, q.2.2.1) := by decide +kernel
theorem vm_d124 : ∀ q ∈ vm_k124, decode cX10_draw q.1 = .ok (q.2.1, q.2.2.1) := by decide +kernel
theorem vm_d125 : ∀ q ∈ vm_k125, decode cX10_isWood q.1 = .ok (q.2.1, q.2.2.1) := by decide +kernel
theorem vm_d126 : ∀ q ∈ vm_k126, decode cX10_within q.1 = .ok (q.2.1, q.2.2.1) := by decide +kernel
theorem vm_d127 : ∀ q ∈ vm_k127, decode cX11_init q.1 = .ok (q.2.1, q.2.2.1) := by decide +kernel
theorem vm_d128 : ∀ q ∈ vm_k128, decode cX11_in q.1 = .ok (q.2.1, q.2.2.1) := by decide +kernel
theorem vm_d129 : ∀ q ∈ vm_k129, decode cX11_has q.1 = .ok (q.2.1, q.2.2.1) := by decide +kernel
theorem vm_d130 : ∀ q ∈ vm_k130, decode cX11_copies q.1 = .ok (q.2.1, q.2.2.1) := by decide +kernel
theorem vm_d131 : ∀ q ∈ vm_k131, decode cX11_line q.1 = .ok (q.2.1, q.2.2.1) := by decide +kernel
theorem vm_d132 : ∀ q ∈ vm_k132, decode cX11_company q.1 = .ok (q.2.1, q.2.2.1) := by decide +kernel
theorem vm_d133 : ∀ q ∈ vm_k133, decode cX11_begins q.1 = .ok (q.2.1, q.2.2.1) := by decide +kernel
theorem vm_d134 : ∀ q ∈ vm_k134, decode cX11_write q.1 = .ok (q.2.1, q.2.2.1) := by decide +kernel
theorem vm_d135 : ∀ q ∈ vm_k135, decode cX11_wipe q.1 = .ok (q.2.1, q.2.2.1) := by decide +kernel
theorem vm_d136 : ∀ q ∈ vm_k136, decode cX11_here q.1 = .ok (q.2.1, q.2.2.1) := by decide +kernel
theorem vm_d137 : ∀ q ∈ vm_k137, decode cX11_takes q.1 = .ok (q.2.1, q.2.2.1) := by decide +kernel
theorem vm_d138 : ∀ q ∈ vm_k138, decode cX11_isFigure q.1 = .ok (q.2.1, q.2.2.1) := by decide +kernel
theorem vm_d139 : ∀ q ∈ vm_k139, decode cX11_number q.1 = .ok (q.2.1, q.2.2.1) := by decide +kernel
theorem vm_d140 : ∀ q ∈ vm_k140, decode cX11_readsLine q.1 = .ok (q.2.1, q.2.2.1) := by decide +kernel
theorem vm_d141 : ∀ q ∈ vm_k141, decode cX11_readsRain q.1 = .ok (q.2.1, q.2.2.1) := by decide +kernel
theorem vm_d142 : ∀ q ∈ vm_k142, decode cX11_readsCompany q.1 = .ok (q.2.1, q.2.2.1) := by decide +kernel
theorem vm_d143 : ∀ q ∈ vm_k143, decode cX11_readsItem q.1 = .ok (q.2.1, q.2.2.1) := by decide +kernel
theorem vm_d144 : ∀ q ∈ vm_k144, decode cX11_reads q.1 = .ok (q.2.1, q.2.2.1) := by decide +kernel
theorem vm_d145 : ∀ q ∈ vm_k145, decode cX11_fault q.1 = .ok (q.2.1, q.2.2.1) := by decide +kernel
theorem vm_d146 : ∀ q ∈ vm_k146, decode cX11_areTold q.1 = .ok (q.2.1, q.2.2.1) := by decide +kernel
theorem vm_d147 : ∀ q ∈ vm_k147, decode cX11_lay q.1 = .ok (q.2.1, q.2.2.1) := by decide +kernel
theorem vm_d148 : ∀ q ∈ vm_k148, decode cX11_isLine q.1 = .ok (q.2.1, q.2.2.1) := by decide +kernel
theorem vm_d149 : ∀ q ∈ vm_k149, decode cX11_isWood q.1 = .ok (q.2.1, q.2.2.1) := by decide +kernel
theorem vm_d150 : ∀ q ∈ vm_k150, decode cX11_isCompany q.1 = .ok (q.2.1, q.2.2.1) := by decide +kernel
theorem vm_d151 : ∀ q ∈ vm_k151, decode cX11_behind q.1 = .ok (q.2.1, q.2.2.1) := by decide +kernel
theorem vm_d152 : ∀ q ∈ vm_k152, decode cX11_goes q.1 = .ok (q.2.1, q.2.2.1) := by decide +kernel
theorem vm_d153 : ∀ q ∈ vm_k153, decode cX11_rainAt q.1 = .ok (q.2.1, q.2.2.1) := by decide +kernel
theorem vm_d154 : ∀ q ∈ vm_k154, decode cX11_line_ q.1 = .ok (q.2.1, q.2.2.1) := by decide +kernel
theorem vm_d155 : ∀ q ∈ vm_k155, decode cX11_rain q.1 = .ok (q.2.1, q.2.2.1) := by decide +kernel
theorem vm_d156 : ∀ q ∈ vm_k156, decode cX11_company_ q.1 = .ok (q.2.1, q.2.2.1) := by decide +kernel
theorem vm_d157 : ∀ q ∈ vm_k157, decode cX11_hotter q.1 = .ok (q.2.1, q.2.2.1) := by decide +kernel
theorem vm_d158 : ∀ q ∈ vm_k158, decode cX11_cooler q.1 = .ok (q.2.1, q.2.2.1) := by decide +kernel
theorem vm_d159 : ∀ q ∈ vm_k159, decode cX11_isIn q.1 = .ok (q.2.1, q.2.2.1) := by decide +kernel
theorem vm_d160 : ∀ q ∈ vm_k160, decode cX11_goesOut q.1 = .ok (q.2.1, q.2.2.1) := by decide +kernel
theorem vm_d161 : ∀ q ∈ vm_k161, decode cX11_mayPut q.1 = .ok (q.2.1, q.2.2.1) := by decide +kernel
theorem vm_d162 : ∀ q ∈ vm_k162, decode cX11_puts q.1 = .ok (q.2.1, q.2.2.1) := by decide +kernel
theorem vm_d163 : ∀ q ∈ vm_k163, decode cX11_hourGoes q.1 = .ok (q.2.1, q.2.2.1) := by decide +kernel
theorem vm_d164 : ∀ q ∈ vm_k164, decode cX11_insOf q.1 = .ok (q.2.1, q.2.2.1) := by decide +kernel
theorem vm_d165 : ∀ q ∈ vm_k165, decode cX11_remember q.1 = .ok (q.2.1, q.2.2.1) := by decide +kernel
theorem vm_d166 : ∀ q ∈ vm_k166, decode cX11_put q.1 = .ok (q.2.1, q.2.2.1) := by decide +kernel
theorem vm_d167 : ∀ q ∈ vm_k167, decode cX11_pass q.1 = .ok (q.2.1, q.2.2.1) := by decide +kernel
theorem vm_d168 : ∀ q ∈ vm_k168, decode cX11_mayLight q.1 = .ok (q.2.1, q.2.2.1) := by decide +kernel
theorem vm_d169 : ∀ q ∈ vm_k169, decode cX11_lights q.1 = .ok (q.2.1, q.2.2.1) := by decide +kernel
theorem vm_d170 : ∀ q ∈ vm_k170, decode cX11_light q.1 = .ok (q.2.1, q.2.2.1) := by decide +kernel
theorem vm_d171 : ∀ q ∈ vm_k171, decode cX11_join q.1 = .ok (q.2.1, q.2.2.1) := by decide +kernel
theorem vm_d172 : ∀ q ∈ vm_k172, decode cX11_mayHand q.1 = .ok (q.2.1, q.2.2.1) := by decide +kernel
theorem vm_d173 : ∀ q ∈ vm_k173, decode cX11_hand q.1 = .ok (q.2.1, q.2.2.1) := by decide +kernel
theorem vm_d174 : ∀ q ∈ vm_k174, decode cX11_undo q.1 = .ok (q.2.1, q.2.2.1) := by decide +kernel
theorem vm_d175 : ∀ q ∈ vm_k175, decode cX11_lasts q.1 = .ok (q.2.1, q.2.2.1) := by decide +kernel
theorem vm_d176 : ∀ q ∈ vm_k176, decode cX11_layLogs q.1 = .ok (q.2.1, q.2.2.1) := by decide +kernel
theorem vm_d177 : ∀ q ∈ vm_k177, decode cX11_keptBy q.1 = .ok (q.2.1, q.2.2.1) := by decide +kernel
theorem vm_d178 : ∀ q ∈ vm_k178, decode cX11_giveBack q.1 = .ok (q.2.1, q.2.2.1) := by decide +kernel
theorem vm_d179 : ∀ q ∈ vm_k179, decode cX11_keeps q.1 = .ok (q.2.1, q.2.2.1) := by decide +kernel
theorem vm_d180 : ∀ q ∈ vm_k180, decode cX11_stays q.1 = .ok (q.2.1, q.2.2.1) := by decide +kernel
theorem vm_d181 : ∀ q ∈ vm_k181, decode cX11_tellsBy q.1 = .ok (q.2.1, q.2.2.1) := by decide +kernel
theorem vm_d182 : ∀ q ∈ vm_k182, decode cX11_tellsFor q.1 = .ok (q.2.1, q.2.2.1) := by decide +kernel
theorem vm_d183 : ∀ q ∈ vm_k183, decode cX11_tell q.1 = .ok (q.2.1, q.2.2.1) := by decide +kernel
theorem vm_d184 : ∀ q ∈ vm_k184, decode cX11_meets q.1 = .ok (q.2.1, q.2.2.1) := by decide +kernel
theorem vm_d185 : ∀ q ∈ vm_k185, decode cX11_laysWay q.1 = .ok (q.2.1, q.2.2.1) := by decide +kernel
theorem vm_d186 : ∀ q ∈ vm_k186, decode cX11_meet q.1 = .ok (q.2.1, q.2.2.1) := by decide +kernel
theorem vm_d187 : ∀ q ∈ vm_k187, decode cX11_can q.1 = .ok (q.2.1, q.2.2.1) := by decide +kernel
theorem vm_d188 : ∀ q ∈ vm_k188, decode cX11_isKeptWith q.1 = .ok (q.2.1, q.2.2.1) := by decide +kernel
theorem vm_d189 : ∀ q ∈ vm_k189, decode cX11_give q.1 = .ok (q.2.1, q.2.2.1) := by decide +kernel
theorem vm_d190 : ∀ q ∈ vm_k190, decode cX11_see q.1 = .ok (q.2.1, q.2.2.1) := by decide +kernel
theorem vm_d191 : ∀ q ∈ vm_k191, decode cX11_forget q.1 = .ok (q.2.1, q.2.2.1) := by decide +kernel
theorem vm_d192 : ∀ q ∈ vm_k192, decode cX11_from q.1 = .ok (q.2.1, q.2.2.1) := by decide +kernel
theorem vm_d193 : ∀ q ∈ vm_k193, decode cX11_rows q.1 = .ok (q.2.1, q.2.2.1) := by decide +kernel
theorem vm_d194 : ∀ q ∈ vm_k194, decode cX11_lowest q.1 = .ok (q.2.1, q.2.2.1) := by decide +kernel
theorem vm_d195 : ∀ q ∈ vm_k195, decode cX11_rains q.1 = .ok (q.2.1, q.2.2.1) := by decide +kernel
theorem vm_d196 : ∀ q ∈ vm_k196, decode cX11_toldIn q.1 = .ok (q.2.1, q.2.2.1) := by decide +kernel
theorem vm_d197 : ∀ q ∈ vm_k197, decode cX11_winter q.1 = .ok (q.2.1, q.2.2.1) := by decide +kernel
theorem vm_d198 : ∀ q ∈ vm_k198, decode cX11_keep q.1 = .ok (q.2.1, q.2.2.1) := by decide +kernel
theorem vm_d199 : ∀ q ∈ vm_k199, decode cX11_back q.1 = .ok (q.2.1, q.2.2.1) := by decide +kernel
theorem vm_d200 : ∀ q ∈ vm_k200, decode cX11_logsOfAll q.1 = .ok (q.2.1, q.2.2.1) := by decide +kernel
theorem vm_d201 : ∀ q ∈ vm_k201, decode cX11_count q.1 = .ok (q.2.1, q.2.2.1) := by decide +kernel
theorem vm_d202 : ∀ q ∈ vm_k202, decode Lib.Math.max.code q.1 = .ok (q.2.1, q.2.2.1) := by decide +kernel
theorem vm_d203 : ∀ q ∈ vm_k203, decode Lib.Math.min.code q.1 = .ok (q.2.1, q.2.2.1) := by decide +kernel
theorem vm_d204 : ∀ q ∈ vm_k204, decode cJ9_floorMod_7cf53 q.1 = .ok (q.2.1, q.2.2.1) := by decide +kernel
def vm_k205_0 : List vm_I := [(0, .new 7, 3, 9, 0, 0), (3, .dup, 1, 0, 0, 0), (4, .invokespecial 9, 3, 2, 92, 0), (7, .astore_n 1, 1, 0, 0, 0), (8, .new 10, 3, 10, 0, 0), (11, .dup, 1, 0, 0, 0), (12, .invokespecial 12, 3, 2, 127, 0), (15, .astore_n 2, 1, 0, 0, 0), (16, .iconst 0, 1, 0, 0, 0), (17, .istore_n 3, 1, 0, 0, 0), (18, .iload_n 3, 1, 0, 0, 0), (19, .aload_n 0, 1, 0, 0, 0), (20, .arraylength, 1, 0, 0, 0), (21, .iconst 5, 1, 0, 0, 0), (22, .isub, 1, 0, 0, 0), (23, .if_icmp .gt 937, 3, 0, 0, 0), (26, .aload_n 0, 1, 0, 0, 0), (27, .iload_n 3, 1, 0, 0, 0), (28, .iaload, 1, 0, 0, 0), (29, .bipush 31, 2, 0, 0, 0), (31, .iand, 1, 0, 0, 0), (32, .tableswitch 922 0 27 #[128, 151, 164, 177, 190, 223, 246, 279, 312, 335, 368, 401, 444, 457, 480, 523, 566, 609, 632, 675, 698, 711, 734, 777, 830, 873, 886, 899], 128, 0, 0, 0), (160, .aload_n 1, 1, 0, 0, 0), (161, .aload_n 0, 1, 0, 0, 0), (162, .iload_n 3, 1, 0, 0, 0), (163, .iconst 1, 1, 0, 0, 0), (164, .iadd, 1, 0, 0, 0), (165, .iaload, 1, 0, 0, 0), (166, .invokevirtual 13, 3, 0, 93, 901), (169, .aload_n 2, 1, 0, 0, 0), (170, .aload_n 0, 1, 0, 0, 0), (171, .iload_n 3, 1, 0, 0, 0), (172, .iconst 1, 1, 0, 0, 0), (173, .iadd, 1, 0, 0, 0), (174, .iaload, 1, 0, 0, 0), (175, .invokevirtual 17, 3, 0, 134, 1001), (178, .if_icmp .eq 776, 3, 0, 0, 0), (181, .iconst 0, 1, 0, 0, 0), (182, .ireturn, 1, 0, 0, 0), (183, .aload_n 1, 1, 0, 0, 0), (184, .invokevirtual 18, 3, 0, 94, 900), (187, .aload_n 2, 1, 0, 0, 0), (188, .invokevirtual 22, 3, 0, 135, 1000), (191, .if_icmp .eq 763, 3, 0, 0, 0), (194, .iconst 0, 1, 0, 0, 0), (195, .ireturn, 1, 0, 0, 0), (196, .aload_n 1, 1, 0, 0, 0), (197, .invokevirtual 23, 3, 0, 95, 900), (200, .aload_n 2, 1, 0, 0, 0), (201, .invokevirtual 26, 3, 0, 145, 1000), (204, .if_icmp .eq 750, 3, 0, 0, 0), (207, .iconst 0, 1, 0, 0, 0), (208, .ireturn, 1, 0, 0, 0), (209, .aload_n 1, 1, 0, 0, 0), (210, .invokevirtual 27, 3, 0, 96, 900), (213, .aload_n 2, 1, 0, 0, 0), (214, .invokevirtual 30, 3, 0, 147, 1000), (217, .if_icmp .eq 737, 3, 0, 0, 0), (220, .iconst 0, 1, 0, 0, 0), (221, .ireturn, 1, 0, 0, 0), (222, .aload_n 1, 1, 0, 0, 0), (223, .aload_n 0, 1, 0, 0, 0), (224, .iload_n 3, 1, 0, 0, 0), (225, .iconst 1, 1, 0, 0, 0), (226, .iadd, 1, 0, 0, 0), (227, .iaload, 1, 0, 0, 0), (228, .aload_n 0, 1, 0, 0, 0), (229, .iload_n 3, 1, 0, 0, 0), (230, .iconst 2, 1, 0, 0, 0), (231, .iadd, 1, 0, 0, 0), (232, .iaload, 1, 0, 0, 0), (233, .invokevirtual 31, 3, 0, 97, 902), (236, .aload_n 2, 1, 0, 0, 0), (237, .aload_n 0, 1, 0, 0, 0), (238, .iload_n 3, 1, 0, 0, 0), (239, .iconst 1, 1, 0, 0, 0), (240, .iadd, 1, 0, 0, 0), (241, .iaload, 1, 0, 0, 0), (242, .aload_n 0, 1, 0, 0, 0), (243, .iload_n 3, 1, 0, 0, 0)]
theorem vm_d205_0 : ∀ q ∈ vm_k205_0, decode code q.1 = .ok (q.2.1, q.2.2.1) := by decide +kernel
def vm_k205_1 : List vm_I := [(244, .iconst 2, 1, 0, 0, 0), (245, .iadd, 1, 0, 0, 0), (246, .iaload, 1, 0, 0, 0), (247, .invokevirtual 35, 3, 0, 154, 1002), (250, .if_icmp .eq 704, 3, 0, 0, 0), (253, .iconst 0, 1, 0, 0, 0), (254, .ireturn, 1, 0, 0, 0), (255, .aload_n 1, 1, 0, 0, 0), (256, .aload_n 0, 1, 0, 0, 0), (257, .iload_n 3, 1, 0, 0, 0), (258, .iconst 1, 1, 0, 0, 0), (259, .iadd, 1, 0, 0, 0), (260, .iaload, 1, 0, 0, 0), (261, .invokevirtual 36, 3, 0, 98, 901), (264, .aload_n 2, 1, 0, 0, 0), (265, .aload_n 0, 1, 0, 0, 0), (266, .iload_n 3, 1, 0, 0, 0), (267, .iconst 1, 1, 0, 0, 0), (268, .iadd, 1, 0, 0, 0), (269, .iaload, 1, 0, 0, 0), (270, .invokevirtual 39, 3, 0, 155, 1001), (273, .if_icmp .eq 681, 3, 0, 0, 0), (276, .iconst 0, 1, 0, 0, 0), (277, .ireturn, 1, 0, 0, 0), (278, .aload_n 1, 1, 0, 0, 0), (279, .aload_n 0, 1, 0, 0, 0), (280, .iload_n 3, 1, 0, 0, 0), (281, .iconst 1, 1, 0, 0, 0), (282, .iadd, 1, 0, 0, 0), (283, .iaload, 1, 0, 0, 0), (284, .aload_n 0, 1, 0, 0, 0), (285, .iload_n 3, 1, 0, 0, 0), (286, .iconst 2, 1, 0, 0, 0), (287, .iadd, 1, 0, 0, 0), (288, .iaload, 1, 0, 0, 0), (289, .invokevirtual 40, 3, 0, 99, 902), (292, .aload_n 2, 1, 0, 0, 0), (293, .aload_n 0, 1, 0, 0, 0), (294, .iload_n 3, 1, 0, 0, 0), (295, .iconst 1, 1, 0, 0, 0), (296, .iadd, 1, 0, 0, 0), (297, .iaload, 1, 0, 0, 0), (298, .aload_n 0, 1, 0, 0, 0), (299, .iload_n 3, 1, 0, 0, 0), (300, .iconst 2, 1, 0, 0, 0), (301, .iadd, 1, 0, 0, 0), (302, .iaload, 1, 0, 0, 0), (303, .invokevirtual 43, 3, 0, 156, 1002), (306, .if_icmp .eq 648, 3, 0, 0, 0), (309, .iconst 0, 1, 0, 0, 0), (310, .ireturn, 1, 0, 0, 0), (311, .aload_n 1, 1, 0, 0, 0), (312, .aload_n 0, 1, 0, 0, 0), (313, .iload_n 3, 1, 0, 0, 0), (314, .iconst 1, 1, 0, 0, 0), (315, .iadd, 1, 0, 0, 0), (316, .iaload, 1, 0, 0, 0), (317, .aload_n 0, 1, 0, 0, 0), (318, .iload_n 3, 1, 0, 0, 0), (319, .iconst 2, 1, 0, 0, 0), (320, .iadd, 1, 0, 0, 0), (321, .iaload, 1, 0, 0, 0), (322, .invokevirtual 44, 3, 0, 100, 902), (325, .aload_n 2, 1, 0, 0, 0), (326, .aload_n 0, 1, 0, 0, 0), (327, .iload_n 3, 1, 0, 0, 0), (328, .iconst 1, 1, 0, 0, 0), (329, .iadd, 1, 0, 0, 0), (330, .iaload, 1, 0, 0, 0), (331, .aload_n 0, 1, 0, 0, 0), (332, .iload_n 3, 1, 0, 0, 0), (333, .iconst 2, 1, 0, 0, 0), (334, .iadd, 1, 0, 0, 0), (335, .iaload, 1, 0, 0, 0), (336, .invokevirtual 47, 3, 0, 166, 1002), (339, .if_icmp .eq 615, 3, 0, 0, 0), (342, .iconst 0, 1, 0, 0, 0), (343, .ireturn, 1, 0, 0, 0), (344, .aload_n 1, 1, 0, 0, 0), (345, .aload_n 0, 1, 0, 0, 0)]
theorem vm_d205_1 : ∀ q ∈ vm_k205_1, decode code q.1 = .ok (q.2.1, q.2.2.1) := by decide +kernel
def vm_k205_2 : List vm_I := [(346, .iload_n 3, 1, 0, 0, 0), (347, .iconst 1, 1, 0, 0, 0), (348, .iadd, 1, 0, 0, 0), (349, .iaload, 1, 0, 0, 0), (350, .invokevirtual 48, 3, 0, 101, 901), (353, .aload_n 2, 1, 0, 0, 0), (354, .aload_n 0, 1, 0, 0, 0), (355, .iload_n 3, 1, 0, 0, 0), (356, .iconst 1, 1, 0, 0, 0), (357, .iadd, 1, 0, 0, 0), (358, .iaload, 1, 0, 0, 0), (359, .invokevirtual 51, 3, 0, 167, 1001), (362, .if_icmp .eq 592, 3, 0, 0, 0), (365, .iconst 0, 1, 0, 0, 0), (366, .ireturn, 1, 0, 0, 0), (367, .aload_n 1, 1, 0, 0, 0), (368, .aload_n 0, 1, 0, 0, 0), (369, .iload_n 3, 1, 0, 0, 0), (370, .iconst 1, 1, 0, 0, 0), (371, .iadd, 1, 0, 0, 0), (372, .iaload, 1, 0, 0, 0), (373, .aload_n 0, 1, 0, 0, 0), (374, .iload_n 3, 1, 0, 0, 0), (375, .iconst 2, 1, 0, 0, 0), (376, .iadd, 1, 0, 0, 0), (377, .iaload, 1, 0, 0, 0), (378, .invokevirtual 52, 3, 0, 102, 902), (381, .aload_n 2, 1, 0, 0, 0), (382, .aload_n 0, 1, 0, 0, 0), (383, .iload_n 3, 1, 0, 0, 0), (384, .iconst 1, 1, 0, 0, 0), (385, .iadd, 1, 0, 0, 0), (386, .iaload, 1, 0, 0, 0), (387, .aload_n 0, 1, 0, 0, 0), (388, .iload_n 3, 1, 0, 0, 0), (389, .iconst 2, 1, 0, 0, 0), (390, .iadd, 1, 0, 0, 0), (391, .iaload, 1, 0, 0, 0), (392, .invokevirtual 55, 3, 0, 170, 1002), (395, .if_icmp .eq 559, 3, 0, 0, 0), (398, .iconst 0, 1, 0, 0, 0), (399, .ireturn, 1, 0, 0, 0), (400, .aload_n 1, 1, 0, 0, 0), (401, .aload_n 0, 1, 0, 0, 0), (402, .iload_n 3, 1, 0, 0, 0), (403, .iconst 1, 1, 0, 0, 0), (404, .iadd, 1, 0, 0, 0), (405, .iaload, 1, 0, 0, 0), (406, .aload_n 0, 1, 0, 0, 0), (407, .iload_n 3, 1, 0, 0, 0), (408, .iconst 2, 1, 0, 0, 0), (409, .iadd, 1, 0, 0, 0), (410, .iaload, 1, 0, 0, 0), (411, .invokevirtual 56, 3, 0, 103, 902), (414, .aload_n 2, 1, 0, 0, 0), (415, .aload_n 0, 1, 0, 0, 0), (416, .iload_n 3, 1, 0, 0, 0), (417, .iconst 1, 1, 0, 0, 0), (418, .iadd, 1, 0, 0, 0), (419, .iaload, 1, 0, 0, 0), (420, .aload_n 0, 1, 0, 0, 0), (421, .iload_n 3, 1, 0, 0, 0), (422, .iconst 2, 1, 0, 0, 0), (423, .iadd, 1, 0, 0, 0), (424, .iaload, 1, 0, 0, 0), (425, .invokevirtual 59, 3, 0, 171, 1002), (428, .if_icmp .eq 526, 3, 0, 0, 0), (431, .iconst 0, 1, 0, 0, 0), (432, .ireturn, 1, 0, 0, 0), (433, .aload_n 1, 1, 0, 0, 0), (434, .aload_n 0, 1, 0, 0, 0), (435, .iload_n 3, 1, 0, 0, 0), (436, .iconst 1, 1, 0, 0, 0), (437, .iadd, 1, 0, 0, 0), (438, .iaload, 1, 0, 0, 0), (439, .aload_n 0, 1, 0, 0, 0), (440, .iload_n 3, 1, 0, 0, 0), (441, .iconst 2, 1, 0, 0, 0), (442, .iadd, 1, 0, 0, 0), (443, .iaload, 1, 0, 0, 0)]
theorem vm_d205_2 : ∀ q ∈ vm_k205_2, decode code q.1 = .ok (q.2.1, q.2.2.1) := by decide +kernel
def vm_k205_3 : List vm_I := [(444, .aload_n 0, 1, 0, 0, 0), (445, .iload_n 3, 1, 0, 0, 0), (446, .iconst 3, 1, 0, 0, 0), (447, .iadd, 1, 0, 0, 0), (448, .iaload, 1, 0, 0, 0), (449, .invokevirtual 60, 3, 0, 104, 903), (452, .aload_n 2, 1, 0, 0, 0), (453, .aload_n 0, 1, 0, 0, 0), (454, .iload_n 3, 1, 0, 0, 0), (455, .iconst 1, 1, 0, 0, 0), (456, .iadd, 1, 0, 0, 0), (457, .iaload, 1, 0, 0, 0), (458, .aload_n 0, 1, 0, 0, 0), (459, .iload_n 3, 1, 0, 0, 0), (460, .iconst 2, 1, 0, 0, 0), (461, .iadd, 1, 0, 0, 0), (462, .iaload, 1, 0, 0, 0), (463, .aload_n 0, 1, 0, 0, 0), (464, .iload_n 3, 1, 0, 0, 0), (465, .iconst 3, 1, 0, 0, 0), (466, .iadd, 1, 0, 0, 0), (467, .iaload, 1, 0, 0, 0), (468, .invokevirtual 64, 3, 0, 173, 1003), (471, .if_icmp .eq 483, 3, 0, 0, 0), (474, .iconst 0, 1, 0, 0, 0), (475, .ireturn, 1, 0, 0, 0), (476, .aload_n 1, 1, 0, 0, 0), (477, .invokevirtual 65, 3, 0, 105, 900), (480, .aload_n 2, 1, 0, 0, 0), (481, .invokevirtual 68, 3, 0, 174, 1000), (484, .if_icmp .eq 470, 3, 0, 0, 0), (487, .iconst 0, 1, 0, 0, 0), (488, .ireturn, 1, 0, 0, 0), (489, .aload_n 1, 1, 0, 0, 0), (490, .aload_n 0, 1, 0, 0, 0), (491, .iload_n 3, 1, 0, 0, 0), (492, .iconst 1, 1, 0, 0, 0), (493, .iadd, 1, 0, 0, 0), (494, .iaload, 1, 0, 0, 0), (495, .invokevirtual 69, 3, 0, 106, 901), (498, .aload_n 2, 1, 0, 0, 0), (499, .aload_n 0, 1, 0, 0, 0), (500, .iload_n 3, 1, 0, 0, 0), (501, .iconst 1, 1, 0, 0, 0), (502, .iadd, 1, 0, 0, 0), (503, .iaload, 1, 0, 0, 0), (504, .invokevirtual 72, 3, 0, 175, 1001), (507, .if_icmp .eq 447, 3, 0, 0, 0), (510, .iconst 0, 1, 0, 0, 0), (511, .ireturn, 1, 0, 0, 0), (512, .aload_n 1, 1, 0, 0, 0), (513, .aload_n 0, 1, 0, 0, 0), (514, .iload_n 3, 1, 0, 0, 0), (515, .iconst 1, 1, 0, 0, 0), (516, .iadd, 1, 0, 0, 0), (517, .iaload, 1, 0, 0, 0), (518, .aload_n 0, 1, 0, 0, 0), (519, .iload_n 3, 1, 0, 0, 0), (520, .iconst 2, 1, 0, 0, 0), (521, .iadd, 1, 0, 0, 0), (522, .iaload, 1, 0, 0, 0), (523, .aload_n 0, 1, 0, 0, 0), (524, .iload_n 3, 1, 0, 0, 0), (525, .iconst 3, 1, 0, 0, 0), (526, .iadd, 1, 0, 0, 0), (527, .iaload, 1, 0, 0, 0), (528, .invokevirtual 73, 3, 0, 107, 903), (531, .aload_n 2, 1, 0, 0, 0), (532, .aload_n 0, 1, 0, 0, 0), (533, .iload_n 3, 1, 0, 0, 0), (534, .iconst 1, 1, 0, 0, 0), (535, .iadd, 1, 0, 0, 0), (536, .iaload, 1, 0, 0, 0), (537, .aload_n 0, 1, 0, 0, 0), (538, .iload_n 3, 1, 0, 0, 0), (539, .iconst 2, 1, 0, 0, 0), (540, .iadd, 1, 0, 0, 0), (541, .iaload, 1, 0, 0, 0), (542, .aload_n 0, 1, 0, 0, 0), (543, .iload_n 3, 1, 0, 0, 0)]
theorem vm_d205_3 : ∀ q ∈ vm_k205_3, decode code q.1 = .ok (q.2.1, q.2.2.1) := by decide +kernel
def vm_k205_4 : List vm_I := [(544, .iconst 3, 1, 0, 0, 0), (545, .iadd, 1, 0, 0, 0), (546, .iaload, 1, 0, 0, 0), (547, .invokevirtual 76, 3, 0, 180, 1003), (550, .if_icmp .eq 404, 3, 0, 0, 0), (553, .iconst 0, 1, 0, 0, 0), (554, .ireturn, 1, 0, 0, 0), (555, .aload_n 1, 1, 0, 0, 0), (556, .aload_n 0, 1, 0, 0, 0), (557, .iload_n 3, 1, 0, 0, 0), (558, .iconst 1, 1, 0, 0, 0), (559, .iadd, 1, 0, 0, 0), (560, .iaload, 1, 0, 0, 0), (561, .aload_n 0, 1, 0, 0, 0), (562, .iload_n 3, 1, 0, 0, 0), (563, .iconst 2, 1, 0, 0, 0), (564, .iadd, 1, 0, 0, 0), (565, .iaload, 1, 0, 0, 0), (566, .aload_n 0, 1, 0, 0, 0), (567, .iload_n 3, 1, 0, 0, 0), (568, .iconst 3, 1, 0, 0, 0), (569, .iadd, 1, 0, 0, 0), (570, .iaload, 1, 0, 0, 0), (571, .invokevirtual 77, 3, 0, 108, 903), (574, .aload_n 2, 1, 0, 0, 0), (575, .aload_n 0, 1, 0, 0, 0), (576, .iload_n 3, 1, 0, 0, 0), (577, .iconst 1, 1, 0, 0, 0), (578, .iadd, 1, 0, 0, 0), (579, .iaload, 1, 0, 0, 0), (580, .aload_n 0, 1, 0, 0, 0), (581, .iload_n 3, 1, 0, 0, 0), (582, .iconst 2, 1, 0, 0, 0), (583, .iadd, 1, 0, 0, 0), (584, .iaload, 1, 0, 0, 0), (585, .aload_n 0, 1, 0, 0, 0), (586, .iload_n 3, 1, 0, 0, 0), (587, .iconst 3, 1, 0, 0, 0), (588, .iadd, 1, 0, 0, 0), (589, .iaload, 1, 0, 0, 0), (590, .invokevirtual 80, 3, 0, 183, 1003), (593, .if_icmp .eq 361, 3, 0, 0, 0), (596, .iconst 0, 1, 0, 0, 0), (597, .ireturn, 1, 0, 0, 0), (598, .aload_n 1, 1, 0, 0, 0), (599, .aload_n 0, 1, 0, 0, 0), (600, .iload_n 3, 1, 0, 0, 0), (601, .iconst 1, 1, 0, 0, 0), (602, .iadd, 1, 0, 0, 0), (603, .iaload, 1, 0, 0, 0), (604, .aload_n 0, 1, 0, 0, 0), (605, .iload_n 3, 1, 0, 0, 0), (606, .iconst 2, 1, 0, 0, 0), (607, .iadd, 1, 0, 0, 0), (608, .iaload, 1, 0, 0, 0), (609, .aload_n 0, 1, 0, 0, 0), (610, .iload_n 3, 1, 0, 0, 0), (611, .iconst 3, 1, 0, 0, 0), (612, .iadd, 1, 0, 0, 0), (613, .iaload, 1, 0, 0, 0), (614, .invokevirtual 81, 3, 0, 109, 903), (617, .aload_n 2, 1, 0, 0, 0), (618, .aload_n 0, 1, 0, 0, 0), (619, .iload_n 3, 1, 0, 0, 0), (620, .iconst 1, 1, 0, 0, 0), (621, .iadd, 1, 0, 0, 0), (622, .iaload, 1, 0, 0, 0), (623, .aload_n 0, 1, 0, 0, 0), (624, .iload_n 3, 1, 0, 0, 0), (625, .iconst 2, 1, 0, 0, 0), (626, .iadd, 1, 0, 0, 0), (627, .iaload, 1, 0, 0, 0), (628, .aload_n 0, 1, 0, 0, 0), (629, .iload_n 3, 1, 0, 0, 0), (630, .iconst 3, 1, 0, 0, 0), (631, .iadd, 1, 0, 0, 0), (632, .iaload, 1, 0, 0, 0), (633, .invokevirtual 84, 3, 0, 186, 1003), (636, .if_icmp .eq 318, 3, 0, 0, 0), (639, .iconst 0, 1, 0, 0, 0)]
theorem vm_d205_4 : ∀ q ∈ vm_k205_4, decode code q.1 = .ok (q.2.1, q.2.2.1) := by decide +kernel
def vm_k205_5 : List vm_I := [(640, .ireturn, 1, 0, 0, 0), (641, .aload_n 1, 1, 0, 0, 0), (642, .aload_n 0, 1, 0, 0, 0), (643, .iload_n 3, 1, 0, 0, 0), (644, .iconst 1, 1, 0, 0, 0), (645, .iadd, 1, 0, 0, 0), (646, .iaload, 1, 0, 0, 0), (647, .invokevirtual 85, 3, 0, 110, 901), (650, .aload_n 2, 1, 0, 0, 0), (651, .aload_n 0, 1, 0, 0, 0), (652, .iload_n 3, 1, 0, 0, 0), (653, .iconst 1, 1, 0, 0, 0), (654, .iadd, 1, 0, 0, 0), (655, .iaload, 1, 0, 0, 0), (656, .invokevirtual 88, 3, 0, 187, 1001), (659, .if_icmp .eq 295, 3, 0, 0, 0), (662, .iconst 0, 1, 0, 0, 0), (663, .ireturn, 1, 0, 0, 0), (664, .aload_n 1, 1, 0, 0, 0), (665, .aload_n 0, 1, 0, 0, 0), (666, .iload_n 3, 1, 0, 0, 0), (667, .iconst 1, 1, 0, 0, 0), (668, .iadd, 1, 0, 0, 0), (669, .iaload, 1, 0, 0, 0), (670, .aload_n 0, 1, 0, 0, 0), (671, .iload_n 3, 1, 0, 0, 0), (672, .iconst 2, 1, 0, 0, 0), (673, .iadd, 1, 0, 0, 0), (674, .iaload, 1, 0, 0, 0), (675, .aload_n 0, 1, 0, 0, 0), (676, .iload_n 3, 1, 0, 0, 0), (677, .iconst 3, 1, 0, 0, 0), (678, .iadd, 1, 0, 0, 0), (679, .iaload, 1, 0, 0, 0), (680, .invokevirtual 89, 3, 0, 111, 903), (683, .aload_n 2, 1, 0, 0, 0), (684, .aload_n 0, 1, 0, 0, 0), (685, .iload_n 3, 1, 0, 0, 0), (686, .iconst 1, 1, 0, 0, 0), (687, .iadd, 1, 0, 0, 0), (688, .iaload, 1, 0, 0, 0), (689, .aload_n 0, 1, 0, 0, 0), (690, .iload_n 3, 1, 0, 0, 0), (691, .iconst 2, 1, 0, 0, 0), (692, .iadd, 1, 0, 0, 0), (693, .iaload, 1, 0, 0, 0), (694, .aload_n 0, 1, 0, 0, 0), (695, .iload_n 3, 1, 0, 0, 0), (696, .iconst 3, 1, 0, 0, 0), (697, .iadd, 1, 0, 0, 0), (698, .iaload, 1, 0, 0, 0), (699, .invokevirtual 92, 3, 0, 189, 1003), (702, .if_icmp .eq 252, 3, 0, 0, 0), (705, .iconst 0, 1, 0, 0, 0), (706, .ireturn, 1, 0, 0, 0), (707, .aload_n 1, 1, 0, 0, 0), (708, .aload_n 0, 1, 0, 0, 0), (709, .iload_n 3, 1, 0, 0, 0), (710, .iconst 1, 1, 0, 0, 0), (711, .iadd, 1, 0, 0, 0), (712, .iaload, 1, 0, 0, 0), (713, .invokevirtual 93, 3, 0, 112, 901), (716, .aload_n 2, 1, 0, 0, 0), (717, .aload_n 0, 1, 0, 0, 0), (718, .iload_n 3, 1, 0, 0, 0), (719, .iconst 1, 1, 0, 0, 0), (720, .iadd, 1, 0, 0, 0), (721, .iaload, 1, 0, 0, 0), (722, .invokevirtual 96, 3, 0, 190, 1001), (725, .if_icmp .eq 229, 3, 0, 0, 0), (728, .iconst 0, 1, 0, 0, 0), (729, .ireturn, 1, 0, 0, 0), (730, .aload_n 1, 1, 0, 0, 0), (731, .invokevirtual 97, 3, 0, 113, 900), (734, .aload_n 2, 1, 0, 0, 0), (735, .invokevirtual 100, 3, 0, 191, 1000), (738, .if_icmp .eq 216, 3, 0, 0, 0), (741, .iconst 0, 1, 0, 0, 0), (742, .ireturn, 1, 0, 0, 0), (743, .aload_n 1, 1, 0, 0, 0)]
theorem vm_d205_5 : ∀ q ∈ vm_k205_5, decode code q.1 = .ok (q.2.1, q.2.2.1) := by decide +kernel
def vm_k205_6 : List vm_I := [(744, .aload_n 0, 1, 0, 0, 0), (745, .iload_n 3, 1, 0, 0, 0), (746, .iconst 1, 1, 0, 0, 0), (747, .iadd, 1, 0, 0, 0), (748, .iaload, 1, 0, 0, 0), (749, .invokevirtual 101, 3, 0, 114, 901), (752, .aload_n 2, 1, 0, 0, 0), (753, .aload_n 0, 1, 0, 0, 0), (754, .iload_n 3, 1, 0, 0, 0), (755, .iconst 1, 1, 0, 0, 0), (756, .iadd, 1, 0, 0, 0), (757, .iaload, 1, 0, 0, 0), (758, .invokevirtual 104, 3, 0, 192, 1001), (761, .if_icmp .eq 193, 3, 0, 0, 0), (764, .iconst 0, 1, 0, 0, 0), (765, .ireturn, 1, 0, 0, 0), (766, .aload_n 1, 1, 0, 0, 0), (767, .aload_n 0, 1, 0, 0, 0), (768, .iload_n 3, 1, 0, 0, 0), (769, .iconst 1, 1, 0, 0, 0), (770, .iadd, 1, 0, 0, 0), (771, .iaload, 1, 0, 0, 0), (772, .aload_n 0, 1, 0, 0, 0), (773, .iload_n 3, 1, 0, 0, 0), (774, .iconst 2, 1, 0, 0, 0), (775, .iadd, 1, 0, 0, 0), (776, .iaload, 1, 0, 0, 0), (777, .aload_n 0, 1, 0, 0, 0), (778, .iload_n 3, 1, 0, 0, 0), (779, .iconst 3, 1, 0, 0, 0), (780, .iadd, 1, 0, 0, 0), (781, .iaload, 1, 0, 0, 0), (782, .invokevirtual 105, 3, 0, 115, 903), (785, .aload_n 2, 1, 0, 0, 0), (786, .aload_n 0, 1, 0, 0, 0), (787, .iload_n 3, 1, 0, 0, 0), (788, .iconst 1, 1, 0, 0, 0), (789, .iadd, 1, 0, 0, 0), (790, .iaload, 1, 0, 0, 0), (791, .aload_n 0, 1, 0, 0, 0), (792, .iload_n 3, 1, 0, 0, 0), (793, .iconst 2, 1, 0, 0, 0), (794, .iadd, 1, 0, 0, 0), (795, .iaload, 1, 0, 0, 0), (796, .aload_n 0, 1, 0, 0, 0), (797, .iload_n 3, 1, 0, 0, 0), (798, .iconst 3, 1, 0, 0, 0), (799, .iadd, 1, 0, 0, 0), (800, .iaload, 1, 0, 0, 0), (801, .invokevirtual 108, 3, 0, 193, 1003), (804, .if_icmp .eq 150, 3, 0, 0, 0), (807, .iconst 0, 1, 0, 0, 0), (808, .ireturn, 1, 0, 0, 0), (809, .aload_n 1, 1, 0, 0, 0), (810, .aload_n 0, 1, 0, 0, 0), (811, .iload_n 3, 1, 0, 0, 0), (812, .iconst 1, 1, 0, 0, 0), (813, .iadd, 1, 0, 0, 0), (814, .iaload, 1, 0, 0, 0), (815, .aload_n 0, 1, 0, 0, 0), (816, .iload_n 3, 1, 0, 0, 0), (817, .iconst 2, 1, 0, 0, 0), (818, .iadd, 1, 0, 0, 0), (819, .iaload, 1, 0, 0, 0), (820, .aload_n 0, 1, 0, 0, 0), (821, .iload_n 3, 1, 0, 0, 0), (822, .iconst 3, 1, 0, 0, 0), (823, .iadd, 1, 0, 0, 0), (824, .iaload, 1, 0, 0, 0), (825, .aload_n 0, 1, 0, 0, 0), (826, .iload_n 3, 1, 0, 0, 0), (827, .iconst 4, 1, 0, 0, 0), (828, .iadd, 1, 0, 0, 0), (829, .iaload, 1, 0, 0, 0), (830, .invokevirtual 109, 3, 0, 116, 904), (833, .aload_n 2, 1, 0, 0, 0), (834, .aload_n 0, 1, 0, 0, 0), (835, .iload_n 3, 1, 0, 0, 0), (836, .iconst 1, 1, 0, 0, 0), (837, .iadd, 1, 0, 0, 0)]
theorem vm_d205_6 : ∀ q ∈ vm_k205_6, decode code q.1 = .ok (q.2.1, q.2.2.1) := by decide +kernel
def vm_k205_7 : List vm_I := [(838, .iaload, 1, 0, 0, 0), (839, .aload_n 0, 1, 0, 0, 0), (840, .iload_n 3, 1, 0, 0, 0), (841, .iconst 2, 1, 0, 0, 0), (842, .iadd, 1, 0, 0, 0), (843, .iaload, 1, 0, 0, 0), (844, .aload_n 0, 1, 0, 0, 0), (845, .iload_n 3, 1, 0, 0, 0), (846, .iconst 3, 1, 0, 0, 0), (847, .iadd, 1, 0, 0, 0), (848, .iaload, 1, 0, 0, 0), (849, .aload_n 0, 1, 0, 0, 0), (850, .iload_n 3, 1, 0, 0, 0), (851, .iconst 4, 1, 0, 0, 0), (852, .iadd, 1, 0, 0, 0), (853, .iaload, 1, 0, 0, 0), (854, .invokevirtual 113, 3, 0, 195, 1004), (857, .if_icmp .eq 97, 3, 0, 0, 0), (860, .iconst 0, 1, 0, 0, 0), (861, .ireturn, 1, 0, 0, 0), (862, .aload_n 1, 1, 0, 0, 0), (863, .aload_n 0, 1, 0, 0, 0), (864, .iload_n 3, 1, 0, 0, 0), (865, .iconst 1, 1, 0, 0, 0), (866, .iadd, 1, 0, 0, 0), (867, .iaload, 1, 0, 0, 0), (868, .aload_n 0, 1, 0, 0, 0), (869, .iload_n 3, 1, 0, 0, 0), (870, .iconst 2, 1, 0, 0, 0), (871, .iadd, 1, 0, 0, 0), (872, .iaload, 1, 0, 0, 0), (873, .aload_n 0, 1, 0, 0, 0), (874, .iload_n 3, 1, 0, 0, 0), (875, .iconst 3, 1, 0, 0, 0), (876, .iadd, 1, 0, 0, 0), (877, .iaload, 1, 0, 0, 0), (878, .invokevirtual 114, 3, 0, 117, 903), (881, .aload_n 2, 1, 0, 0, 0), (882, .aload_n 0, 1, 0, 0, 0), (883, .iload_n 3, 1, 0, 0, 0), (884, .iconst 1, 1, 0, 0, 0), (885, .iadd, 1, 0, 0, 0), (886, .iaload, 1, 0, 0, 0), (887, .aload_n 0, 1, 0, 0, 0), (888, .iload_n 3, 1, 0, 0, 0), (889, .iconst 2, 1, 0, 0, 0), (890, .iadd, 1, 0, 0, 0), (891, .iaload, 1, 0, 0, 0), (892, .aload_n 0, 1, 0, 0, 0), (893, .iload_n 3, 1, 0, 0, 0), (894, .iconst 3, 1, 0, 0, 0), (895, .iadd, 1, 0, 0, 0), (896, .iaload, 1, 0, 0, 0), (897, .invokevirtual 117, 3, 0, 197, 1003), (900, .if_icmp .eq 54, 3, 0, 0, 0), (903, .iconst 0, 1, 0, 0, 0), (904, .ireturn, 1, 0, 0, 0), (905, .aload_n 1, 1, 0, 0, 0), (906, .invokevirtual 118, 3, 0, 118, 900), (909, .aload_n 2, 1, 0, 0, 0), (910, .invokevirtual 121, 3, 0, 198, 1000), (913, .if_icmp .eq 41, 3, 0, 0, 0), (916, .iconst 0, 1, 0, 0, 0), (917, .ireturn, 1, 0, 0, 0), (918, .aload_n 1, 1, 0, 0, 0), (919, .invokevirtual 122, 3, 0, 119, 900), (922, .aload_n 2, 1, 0, 0, 0), (923, .invokevirtual 125, 3, 0, 199, 1000), (926, .if_icmp .eq 28, 3, 0, 0, 0), (929, .iconst 0, 1, 0, 0, 0), (930, .ireturn, 1, 0, 0, 0), (931, .aload_n 1, 1, 0, 0, 0), (932, .aload_n 0, 1, 0, 0, 0), (933, .iload_n 3, 1, 0, 0, 0), (934, .iconst 1, 1, 0, 0, 0), (935, .iadd, 1, 0, 0, 0), (936, .iaload, 1, 0, 0, 0), (937, .invokevirtual 126, 3, 0, 120, 901), (940, .aload_n 2, 1, 0, 0, 0), (941, .aload_n 0, 1, 0, 0, 0)]
theorem vm_d205_7 : ∀ q ∈ vm_k205_7, decode code q.1 = .ok (q.2.1, q.2.2.1) := by decide +kernel
def vm_k205_8 : List vm_I := [(942, .iload_n 3, 1, 0, 0, 0), (943, .iconst 1, 1, 0, 0, 0), (944, .iadd, 1, 0, 0, 0), (945, .iaload, 1, 0, 0, 0), (946, .invokevirtual 129, 3, 0, 201, 1001), (949, .if_icmp .eq 5, 3, 0, 0, 0), (952, .iconst 0, 1, 0, 0, 0), (953, .ireturn, 1, 0, 0, 0), (954, .iinc 3 5, 3, 0, 0, 0), (957, .goto (-939), 3, 0, 0, 0), (960, .iconst 1, 1, 0, 0, 0), (961, .ireturn, 1, 0, 0, 0)]
theorem vm_d205_8 : ∀ q ∈ vm_k205_8, decode code q.1 = .ok (q.2.1, q.2.2.1) := by decide +kernel
set_option maxRecDepth 100000 in
theorem vm_k205_app : vm_k205 = vm_k205_0 ++ (vm_k205_1 ++ (vm_k205_2 ++ (vm_k205_3 ++ (vm_k205_4 ++ (vm_k205_5 ++ (vm_k205_6 ++ (vm_k205_7 ++ (vm_k205_8)))))))) := rfl
theorem vm_d205 : ∀ q ∈ vm_k205, decode code q.1 = .ok (q.2.1, q.2.2.1) := by
  intro q h
  rw [vm_k205_app] at h
  exact (List.mem_append.mp h).elim (fun h => vm_d205_0 q h) (fun h => (List.mem_append.mp h).elim (fun h => vm_d205_1 q h) (fun h => (List.mem_append.mp h).elim (fun h => vm_d205_2 q h) (fun h => (List.mem_append.mp h).elim (fun h => vm_d205_3 q h) (fun h => (List.mem_append.mp h).elim (fun h => vm_d205_4 q h) (fun h => (List.mem_append.mp h).elim (fun h => vm_d205_5 q h) (fun h => (List.mem_append.mp h).elim (fun h => vm_d205_6 q h) (fun h => (List.mem_append.mp h).elim (fun h => vm_d205_7 q h) (fun h => vm_d205_8 q h))))))))
end
section
/-! links: what the tables' numbers stand for, by words of wsL_law -/
abbrev vm_G : List Cond := wsL_law
theorem vm_GG : ∀ w ∈ vm_G, w ∈ vm_G ∧ ((w.onTables && w.keeps) = true ∨ ∃ ty, w = .arrayClass ty) := fun w h => ⟨h, (vm_bG w h).2⟩
def vm_ty (a : Nat) : Nat → FieldType := match a with
  | 0 => tyX0
  | 1 => tyX1
  | 2 => tyX3
  | 3 => tyX4
  | 4 => tyX5
  | 5 => tyX6
  | 6 => tyX7
  | 7 => tyX8
  | 8 => tyX9
  | 9 => tyX10
  | _ => tyX11
/-- the class a of vwCl: its layout words, its types, its names -/
def vm_cls (a : Nat) : Prop := ∃ (C : String) (T : u_T) (N : Nat), vwCl[a]? = some (C, T, N) ∧ (∀ w ∈ u_ws C T N, w ∈ vm_G) ∧ (∀ k, k < N → parseFieldDescriptor (T k).2.2.1 = some (vm_ty a k)) ∧ (∀ x, x < N → ∀ y, y < N → x ≠ y → (T x).2.1 ≠ (T y).2.1)
theorem vm_cls0 : vm_cls 0 := ⟨RX0, TX0, 3, rfl, inlX0, tyX0_ok, nmX0⟩
theorem vm_cls1 : vm_cls 1 := ⟨RX1, TX1, 3, rfl, inlX1, tyX1_ok, nmX1⟩
theorem vm_cls2 : vm_cls 2 := ⟨RX3, TX3, 5, rfl, inlX3, tyX3_ok, nmX3⟩
theorem vm_cls3 : vm_cls 3 := ⟨RX4, TX4, 6, rfl, inlX4, tyX4_ok, nmX4⟩
theorem vm_cls4 : vm_cls 4 := ⟨RX5, TX5, 5, rfl, inlX5, tyX5_ok, nmX5⟩
theorem vm_cls5 : vm_cls 5 := ⟨RX6, TX6, 2, rfl, inlX6, tyX6_ok, nmX6⟩
theorem vm_cls6 : vm_cls 6 := ⟨RX7, TX7, 3, rfl, inlX7, tyX7_ok, nmX7⟩
theorem vm_cls7 : vm_cls 7 := ⟨RX8, TX8, 5, rfl, inlX8, tyX8_ok, nmX8⟩
theorem vm_cls8 : vm_cls 8 := ⟨RX9, TX9, 5, rfl, inlX9, tyX9_ok, nmX9⟩
theorem vm_cls9 : vm_cls 9 := ⟨RX10, TX10, 12, rfl, inlX10, tyX10_ok, nmX10⟩
theorem vm_cls10 : vm_cls 10 := ⟨RX11, TX11, 23, rfl, inlX11, tyX11_ok, nmX11⟩
theorem vm_clsA : ∀ a, a < 11 → vm_cls a := by
  intro a h
  match a, h with
  | 0, _ => exact vm_cls0
  | 1, _ => exact vm_cls1
  | 2, _ => exact vm_cls2
  | 3, _ => exact vm_cls3
  | 4, _ => exact vm_cls4
  | 5, _ => exact vm_cls5
  | 6, _ => exact vm_cls6
  | 7, _ => exact vm_cls7
  | 8, _ => exact vm_cls8
  | 9, _ => exact vm_cls9
  | 10, _ => exact vm_cls10
def vm_ff (o i a b : Nat) : Prop := ∃ (own C : String) (T : u_T) (N : Nat), vm_nm[o]? = some own ∧ vwCl[a]? = some (C, T, N) ∧ b < N ∧ Cond.fieldLink own i (T b).1 (T b).2.1 (T b).2.2.1 ∈ vm_G
theorem vm_f0 : vm_ff 0 16 0 1 := ⟨RX0, RX0, TX0, 3, rfl, rfl, by decide, vm_r4 _ (List.mem_of_getElem? (i := 3) rfl)⟩
theorem vm_f1 : vm_ff 0 20 0 0 := ⟨RX0, RX0, TX0, 3, rfl, rfl, by decide, vm_r4 _ (List.mem_of_getElem? (i := 4) rfl)⟩
theorem vm_f2 : vm_ff 0 27 0 2 := ⟨RX0, RX0, TX0, 3, rfl, rfl, by decide, vm_r9 _ (List.mem_of_getElem? (i := 22) rfl)⟩
theorem vm_f3 : vm_ff 1 14 1 1 := ⟨RX1, RX1, TX1, 3, rfl, rfl, by decide, vm_r6 _ (List.mem_of_getElem? (i := 14) rfl)⟩
theorem vm_f4 : vm_ff 1 20 1 2 := ⟨RX1, RX1, TX1, 3, rfl, rfl, by decide, vm_r6 _ (List.mem_of_getElem? (i := 15) rfl)⟩
theorem vm_f5 : vm_ff 1 23 1 0 := ⟨RX1, RX1, TX1, 3, rfl, rfl, by decide, vm_r6 _ (List.mem_of_getElem? (i := 16) rfl)⟩
theorem vm_f6 : vm_ff 3 14 2 1 := ⟨RX3, RX3, TX3, 5, rfl, rfl, by decide, vm_r5 _ (List.mem_of_getElem? (i := 8) rfl)⟩
theorem vm_f7 : vm_ff 3 20 2 2 := ⟨RX3, RX3, TX3, 5, rfl, rfl, by decide, vm_r5 _ (List.mem_of_getElem? (i := 9) rfl)⟩
theorem vm_f8 : vm_ff 3 23 2 0 := ⟨RX3, RX3, TX3, 5, rfl, rfl, by decide, vm_r5 _ (List.mem_of_getElem? (i := 10) rfl)⟩
theorem vm_f9 : vm_ff 3 33 2 3 := ⟨RX3, RX3, TX3, 5, rfl, rfl, by decide, vm_r31 _ (List.mem_of_getElem? (i := 11) rfl)⟩
theorem vm_f10 : vm_ff 3 43 2 4 := ⟨RX3, RX3, TX3, 5, rfl, rfl, by decide, vm_r31 _ (List.mem_of_getElem? (i := 13) rfl)⟩
theorem vm_f11 : vm_ff 4 16 3 1 := ⟨RX4, RX4, TX4, 6, rfl, rfl, by decide, vm_r6 _ (List.mem_of_getElem? (i := 2) rfl)⟩
theorem vm_f12 : vm_ff 4 20 3 2 := ⟨RX4, RX4, TX4, 6, rfl, rfl, by decide, vm_r6 _ (List.mem_of_getElem? (i := 3) rfl)⟩
theorem vm_f13 : vm_ff 4 23 3 3 := ⟨RX4, RX4, TX4, 6, rfl, rfl, by decide, vm_r6 _ (List.mem_of_getElem? (i := 4) rfl)⟩
theorem vm_f14 : vm_ff 4 26 3 4 := ⟨RX4, RX4, TX4, 6, rfl, rfl, by decide, vm_r6 _ (List.mem_of_getElem? (i := 5) rfl)⟩
theorem vm_f15 : vm_ff 4 29 3 5 := ⟨RX4, RX4, TX4, 6, rfl, rfl, by decide, vm_r6 _ (List.mem_of_getElem? (i := 6) rfl)⟩
theorem vm_f16 : vm_ff 4 32 3 0 := ⟨RX4, RX4, TX4, 6, rfl, rfl, by decide, vm_r6 _ (List.mem_of_getElem? (i := 7) rfl)⟩
theorem vm_f17 : vm_ff 5 16 4 1 := ⟨RX5, RX5, TX5, 5, rfl, rfl, by decide, vm_r4 _ (List.mem_of_getElem? (i := 19) rfl)⟩
theorem vm_f18 : vm_ff 5 23 4 2 := ⟨RX5, RX5, TX5, 5, rfl, rfl, by decide, vm_r4 _ (List.mem_of_getElem? (i := 21) rfl)⟩
theorem vm_f19 : vm_ff 5 32 4 3 := ⟨RX5, RX5, TX5, 5, rfl, rfl, by decide, vm_r4 _ (List.mem_of_getElem? (i := 23) rfl)⟩
theorem vm_f20 : vm_ff 5 36 4 0 := ⟨RX5, RX5, TX5, 5, rfl, rfl, by decide, vm_r5 _ (List.mem_of_getElem? (i := 0) rfl)⟩
theorem vm_f21 : vm_ff 5 51 4 4 := ⟨RX5, RX5, TX5, 5, rfl, rfl, by decide, vm_r9 _ (List.mem_of_getElem? (i := 8) rfl)⟩
theorem vm_f22 : vm_ff 6 15 5 0 := ⟨RX6, RX6, TX6, 2, rfl, rfl, by decide, vm_r3 _ (List.mem_of_getElem? (i := 12) rfl)⟩
theorem vm_f23 : vm_ff 6 21 5 1 := ⟨RX6, RX6, TX6, 2, rfl, rfl, by decide, vm_r8 _ (List.mem_of_getElem? (i := 23) rfl)⟩
theorem vm_f24 : vm_ff 7 15 6 0 := ⟨RX7, RX7, TX7, 3, rfl, rfl, by decide, vm_r4 _ (List.mem_of_getElem? (i := 12) rfl)⟩
theorem vm_f25 : vm_ff 7 24 6 2 := ⟨RX7, RX7, TX7, 3, rfl, rfl, by decide, vm_r14 _ (List.mem_of_getElem? (i := 9) rfl)⟩
theorem vm_f26 : vm_ff 7 32 6 1 := ⟨RX7, RX7, TX7, 3, rfl, rfl, by decide, vm_r23 _ (List.mem_of_getElem? (i := 7) rfl)⟩
theorem vm_f27 : vm_ff 8 14 7 0 := ⟨RX8, RX8, TX8, 5, rfl, rfl, by decide, vm_r3 _ (List.mem_of_getElem? (i := 17) rfl)⟩
theorem vm_f28 : vm_ff 8 20 7 1 := ⟨RX8, RX8, TX8, 5, rfl, rfl, by decide, vm_r3 _ (List.mem_of_getElem? (i := 18) rfl)⟩
theorem vm_f29 : vm_ff 8 23 7 2 := ⟨RX8, RX8, TX8, 5, rfl, rfl, by decide, vm_r3 _ (List.mem_of_getElem? (i := 19) rfl)⟩
theorem vm_f30 : vm_ff 8 26 7 3 := ⟨RX8, RX8, TX8, 5, rfl, rfl, by decide, vm_r3 _ (List.mem_of_getElem? (i := 20) rfl)⟩
theorem vm_f31 : vm_ff 8 29 7 4 := ⟨RX8, RX8, TX8, 5, rfl, rfl, by decide, vm_r9 _ (List.mem_of_getElem? (i := 13) rfl)⟩
theorem vm_f32 : vm_ff 9 14 8 1 := ⟨RX9, RX9, TX9, 5, rfl, rfl, by decide, vm_r5 _ (List.mem_of_getElem? (i := 17) rfl)⟩
theorem vm_f33 : vm_ff 9 20 8 2 := ⟨RX9, RX9, TX9, 5, rfl, rfl, by decide, vm_r5 _ (List.mem_of_getElem? (i := 18) rfl)⟩
theorem vm_f34 : vm_ff 9 23 8 0 := ⟨RX9, RX9, TX9, 5, rfl, rfl, by decide, vm_r5 _ (List.mem_of_getElem? (i := 19) rfl)⟩
theorem vm_f35 : vm_ff 9 39 8 3 := ⟨RX9, RX9, TX9, 5, rfl, rfl, by decide, vm_r33 _ (List.mem_of_getElem? (i := 21) rfl)⟩
theorem vm_f36 : vm_ff 9 52 8 4 := ⟨RX9, RX9, TX9, 5, rfl, rfl, by decide, vm_r33 _ (List.mem_of_getElem? (i := 22) rfl)⟩
theorem vm_f37 : vm_ff 10 14 9 0 := ⟨RX10, RX10, TX10, 12, rfl, rfl, by decide, vm_r1 _ (List.mem_of_getElem? (i := 15) rfl)⟩
theorem vm_f38 : vm_ff 10 18 9 1 := ⟨RX10, RX10, TX10, 12, rfl, rfl, by decide, vm_r1 _ (List.mem_of_getElem? (i := 16) rfl)⟩
theorem vm_f39 : vm_ff 10 24 9 2 := ⟨RX10, RX10, TX10, 12, rfl, rfl, by decide, vm_r1 _ (List.mem_of_getElem? (i := 20) rfl)⟩
theorem vm_f40 : vm_ff 10 33 9 3 := ⟨RX10, RX10, TX10, 12, rfl, rfl, by decide, vm_r2 _ (List.mem_of_getElem? (i := 0) rfl)⟩
theorem vm_f41 : vm_ff 10 37 9 4 := ⟨RX10, RX10, TX10, 12, rfl, rfl, by decide, vm_r2 _ (List.mem_of_getElem? (i := 1) rfl)⟩
theorem vm_f42 : vm_ff 10 45 9 5 := ⟨RX10, RX10, TX10, 12, rfl, rfl, by decide, vm_r2 _ (List.mem_of_getElem? (i := 5) rfl)⟩
theorem vm_f43 : vm_ff 10 49 9 6 := ⟨RX10, RX10, TX10, 12, rfl, rfl, by decide, vm_r2 _ (List.mem_of_getElem? (i := 6) rfl)⟩
theorem vm_f44 : vm_ff 10 57 9 7 := ⟨RX10, RX10, TX10, 12, rfl, rfl, by decide, vm_r2 _ (List.mem_of_getElem? (i := 10) rfl)⟩
theorem vm_f45 : vm_ff 10 64 9 8 := ⟨RX10, RX10, TX10, 12, rfl, rfl, by decide, vm_r2 _ (List.mem_of_getElem? (i := 14) rfl)⟩
theorem vm_f46 : vm_ff 10 71 9 9 := ⟨RX10, RX10, TX10, 12, rfl, rfl, by decide, vm_r2 _ (List.mem_of_getElem? (i := 18) rfl)⟩
theorem vm_f47 : vm_ff 10 78 9 10 := ⟨RX10, RX10, TX10, 12, rfl, rfl, by decide, vm_r2 _ (List.mem_of_getElem? (i := 22) rfl)⟩
theorem vm_f48 : vm_ff 10 85 9 11 := ⟨RX10, RX10, TX10, 12, rfl, rfl, by decide, vm_r3 _ (List.mem_of_getElem? (i := 2) rfl)⟩
theorem vm_f49 : vm_ff 11 7 10 0 := ⟨RX11, RX11, TX11, 23, rfl, rfl, by decide, vm_r14 _ (List.mem_of_getElem? (i := 14) rfl)⟩
theorem vm_f50 : vm_ff 11 13 10 1 := ⟨RX11, RX11, TX11, 23, rfl, rfl, by decide, vm_r14 _ (List.mem_of_getElem? (i := 15) rfl)⟩
theorem vm_f51 : vm_ff 11 16 10 2 := ⟨RX11, RX11, TX11, 23, rfl, rfl, by decide, vm_r14 _ (List.mem_of_getElem? (i := 16) rfl)⟩
theorem vm_f52 : vm_ff 11 19 10 3 := ⟨RX11, RX11, TX11, 23, rfl, rfl, by decide, vm_r14 _ (List.mem_of_getElem? (i := 17) rfl)⟩
theorem vm_f53 : vm_ff 11 22 10 4 := ⟨RX11, RX11, TX11, 23, rfl, rfl, by decide, vm_r14 _ (List.mem_of_getElem? (i := 18) rfl)⟩
theorem vm_f54 : vm_ff 11 25 10 6 := ⟨RX11, RX11, TX11, 23, rfl, rfl, by decide, vm_r14 _ (List.mem_of_getElem? (i := 19) rfl)⟩
theorem vm_f55 : vm_ff 11 28 10 8 := ⟨RX11, RX11, TX11, 23, rfl, rfl, by decide, vm_r14 _ (List.mem_of_getElem? (i := 20) rfl)⟩
theorem vm_f56 : vm_ff 11 31 10 10 := ⟨RX11, RX11, TX11, 23, rfl, rfl, by decide, vm_r14 _ (List.mem_of_getElem? (i := 21) rfl)⟩
theorem vm_f57 : vm_ff 11 34 10 14 := ⟨RX11, RX11, TX11, 23, rfl, rfl, by decide, vm_r14 _ (List.mem_of_getElem? (i := 22) rfl)⟩
theorem vm_f58 : vm_ff 11 37 10 15 := ⟨RX11, RX11, TX11, 23, rfl, rfl, by decide, vm_r14 _ (List.mem_of_getElem? (i := 23) rfl)⟩
theorem vm_f59 : vm_ff 11 40 10 16 := ⟨RX11, RX11, TX11, 23, rfl, rfl, by decide, vm_r15 _ (List.mem_of_getElem? (i := 0) rfl)⟩
theorem vm_f60 : vm_ff 11 43 10 17 := ⟨RX11, RX11, TX11, 23, rfl, rfl, by decide, vm_r15 _ (List.mem_of_getElem? (i := 1) rfl)⟩
theorem vm_f61 : vm_ff 11 46 10 18 := ⟨RX11, RX11, TX11, 23, rfl, rfl, by decide, vm_r15 _ (List.mem_of_getElem? (i := 2) rfl)⟩
theorem vm_f62 : vm_ff 11 49 10 19 := ⟨RX11, RX11, TX11, 23, rfl, rfl, by decide, vm_r15 _ (List.mem_of_getElem? (i := 3) rfl)⟩
theorem vm_f63 : vm_ff 11 52 10 20 := ⟨RX11, RX11, TX11, 23, rfl, rfl, by decide, vm_r15 _ (List.mem_of_getElem? (i := 4) rfl)⟩
theorem vm_f64 : vm_ff 11 55 10 21 := ⟨RX11, RX11, TX11, 23, rfl, rfl, by decide, vm_r15 _ (List.mem_of_getElem? (i := 5) rfl)⟩
theorem vm_f65 : vm_ff 11 58 10 22 := ⟨RX11, RX11, TX11, 23, rfl, rfl, by decide, vm_r15 _ (List.mem_of_getElem? (i := 6) rfl)⟩
theorem vm_f66 : vm_ff 11 72 10 5 := ⟨RX11, RX11, TX11, 23, rfl, rfl, by decide, vm_r15 _ (List.mem_of_getElem? (i := 17) rfl)⟩
theorem vm_f67 : vm_ff 11 76 10 7 := ⟨RX11, RX11, TX11, 23, rfl, rfl, by decide, vm_r15 _ (List.mem_of_getElem? (i := 18) rfl)⟩
theorem vm_f68 : vm_ff 11 79 10 9 := ⟨RX11, RX11, TX11, 23, rfl, rfl, by decide, vm_r15 _ (List.mem_of_getElem? (i := 19) rfl)⟩
theorem vm_f69 : vm_ff 11 90 10 11 := ⟨RX11, RX11, TX11, 23, rfl, rfl, by decide, vm_r16 _ (List.mem_of_getElem? (i := 9) rfl)⟩
theorem vm_f70 : vm_ff 11 93 10 12 := ⟨RX11, RX11, TX11, 23, rfl, rfl, by decide, vm_r17 _ (List.mem_of_getElem? (i := 9) rfl)⟩
theorem vm_f71 : vm_ff 11 108 10 13 := ⟨RX11, RX11, TX11, 23, rfl, rfl, by decide, vm_r18 _ (List.mem_of_getElem? (i := 7) rfl)⟩
set_option maxRecDepth 100000 in
def vm_fT : List (Nat × Nat × Nat × Nat) := [(0, 16, 0, 1), (0, 20, 0, 0), (0, 27, 0, 2), (1, 14, 1, 1), (1, 20, 1, 2), (1, 23, 1, 0), (3, 14, 2, 1), (3, 20, 2, 2), (3, 23, 2, 0), (3, 33, 2, 3), (3, 43, 2, 4), (4, 16, 3, 1), (4, 20, 3, 2), (4, 23, 3, 3), (4, 26, 3, 4), (4, 29, 3, 5), (4, 32, 3, 0), (5, 16, 4, 1), (5, 23, 4, 2), (5, 32, 4, 3), (5, 36, 4, 0), (5, 51, 4, 4), (6, 15, 5, 0), (6, 21, 5, 1), (7, 15, 6, 0), (7, 24, 6, 2), (7, 32, 6, 1), (8, 14, 7, 0), (8, 20, 7, 1), (8, 23, 7, 2), (8, 26, 7, 3), (8, 29, 7, 4), (9, 14, 8, 1), (9, 20, 8, 2), (9, 23, 8, 0), (9, 39, 8, 3), (9, 52, 8, 4), (10, 14, 9, 0), (10, 18, 9, 1), (10, 24, 9, 2), (10, 33, 9, 3), (10, 37, 9, 4), (10, 45, 9, 5), (10, 49, 9, 6), (10, 57, 9, 7), (10, 64, 9, 8), (10, 71, 9, 9), (10, 78, 9, 10), (10, 85, 9, 11), (11, 7, 10, 0), (11, 13, 10, 1), (11, 16, 10, 2), (11, 19, 10, 3), (11, 22, 10, 4), (11, 25, 10, 6), (11, 28, 10, 8), (11, 31, 10, 10), (11, 34, 10, 14), (11, 37, 10, 15), (11, 40, 10, 16), (11, 43, 10, 17), (11, 46, 10, 18), (11, 49, 10, 19), (11, 52, 10, 20), (11, 55, 10, 21), (11, 58, 10, 22), (11, 72, 10, 5), (11, 76, 10, 7), (11, 79, 10, 9), (11, 90, 10, 11), (11, 93, 10, 12), (11, 108, 10, 13)]
theorem vm_fT_0 : ∀ q ∈ ([(0, 16, 0, 1), (0, 20, 0, 0), (0, 27, 0, 2), (1, 14, 1, 1), (1, 20, 1, 2), (1, 23, 1, 0), (3, 14, 2, 1), (3, 20, 2, 2), (3, 23, 2, 0), (3, 33, 2, 3), (3, 43, 2, 4), (4, 16, 3, 1), (4, 20, 3, 2), (4, 23, 3, 3), (4, 26, 3, 4), (4, 29, 3, 5)] : List (Nat × Nat × Nat × Nat)), vm_ff q.1 q.2.1 q.2.2.1 q.2.2.2 := List.forall_mem_cons.mpr ⟨vm_f0, List.forall_mem_cons.mpr ⟨vm_f1, List.forall_mem_cons.mpr ⟨vm_f2, List.forall_mem_cons.mpr ⟨vm_f3, List.forall_mem_cons.mpr ⟨vm_f4, List.forall_mem_cons.mpr ⟨vm_f5, List.forall_mem_cons.mpr ⟨vm_f6, List.forall_mem_cons.mpr ⟨vm_f7, List.forall_mem_cons.mpr ⟨vm_f8, List.forall_mem_cons.mpr ⟨vm_f9, List.forall_mem_cons.mpr ⟨vm_f10, List.forall_mem_cons.mpr ⟨vm_f11, List.forall_mem_cons.mpr ⟨vm_f12, List.forall_mem_cons.mpr ⟨vm_f13, List.forall_mem_cons.mpr ⟨vm_f14, List.forall_mem_cons.mpr ⟨vm_f15, fun _ h => absurd h List.not_mem_nil⟩⟩⟩⟩⟩⟩⟩⟩⟩⟩⟩⟩⟩⟩⟩⟩
theorem vm_fT_1 : ∀ q ∈ ([(4, 32, 3, 0), (5, 16, 4, 1), (5, 23, 4, 2), (5, 32, 4, 3), (5, 36, 4, 0), (5, 51, 4, 4), (6, 15, 5, 0), (6, 21, 5, 1), (7, 15, 6, 0), (7, 24, 6, 2), (7, 32, 6, 1), (8, 14, 7, 0), (8, 20, 7, 1), (8, 23, 7, 2), (8, 26, 7, 3), (8, 29, 7, 4)] : List (Nat × Nat × Nat × Nat)), vm_ff q.1 q.2.1 q.2.2.1 q.2.2.2 := List.forall_mem_cons.mpr ⟨vm_f16, List.forall_mem_cons.mpr ⟨vm_f17, List.forall_mem_cons.mpr ⟨vm_f18, List.forall_mem_cons.mpr ⟨vm_f19, List.forall_mem_cons.mpr ⟨vm_f20, List.forall_mem_cons.mpr ⟨vm_f21, List.forall_mem_cons.mpr ⟨vm_f22, List.forall_mem_cons.mpr ⟨vm_f23, List.forall_mem_cons.mpr ⟨vm_f24, List.forall_mem_cons.mpr ⟨vm_f25, List.forall_mem_cons.mpr ⟨vm_f26, List.forall_mem_cons.mpr ⟨vm_f27, List.forall_mem_cons.mpr ⟨vm_f28, List.forall_mem_cons.mpr ⟨vm_f29, List.forall_mem_cons.mpr ⟨vm_f30, List.forall_mem_cons.mpr ⟨vm_f31, fun _ h => absurd h List.not_mem_nil⟩⟩⟩⟩⟩⟩⟩⟩⟩⟩⟩⟩⟩⟩⟩⟩
theorem vm_fT_2 : ∀ q ∈ ([(9, 14, 8, 1), (9, 20, 8, 2), (9, 23, 8, 0), (9, 39, 8, 3), (9, 52, 8, 4), (10, 14, 9, 0), (10, 18, 9, 1), (10, 24, 9, 2), (10, 33, 9, 3), (10, 37, 9, 4), (10, 45, 9, 5), (10, 49, 9, 6), (10, 57, 9, 7), (10, 64, 9, 8), (10, 71, 9, 9), (10, 78, 9, 10)] : List (Nat × Nat × Nat × Nat)), vm_ff q.1 q.2.1 q.2.2.1 q.2.2.2 := List.forall_mem_cons.mpr ⟨vm_f32, List.forall_mem_cons.mpr ⟨vm_f33, List.forall_mem_cons.mpr ⟨vm_f34, List.forall_mem_cons.mpr ⟨vm_f35, List.forall_mem_cons.mpr ⟨vm_f36, List.forall_mem_cons.mpr ⟨vm_f37, List.forall_mem_cons.mpr ⟨vm_f38, List.forall_mem_cons.mpr ⟨vm_f39, List.forall_mem_cons.mpr ⟨vm_f40, List.forall_mem_cons.mpr ⟨vm_f41, List.forall_mem_cons.mpr ⟨vm_f42, List.forall_mem_cons.mpr ⟨vm_f43, List.forall_mem_cons.mpr ⟨vm_f44, List.forall_mem_cons.mpr ⟨vm_f45, List.forall_mem_cons.mpr ⟨vm_f46, List.forall_mem_cons.mpr ⟨vm_f47, fun _ h => absurd h List.not_mem_nil⟩⟩⟩⟩⟩⟩⟩⟩⟩⟩⟩⟩⟩⟩⟩⟩
theorem vm_fT_3 : ∀ q ∈ ([(10, 85, 9, 11), (11, 7, 10, 0), (11, 13, 10, 1), (11, 16, 10, 2), (11, 19, 10, 3), (11, 22, 10, 4), (11, 25, 10, 6), (11, 28, 10, 8), (11, 31, 10, 10), (11, 34, 10, 14), (11, 37, 10, 15), (11, 40, 10, 16), (11, 43, 10, 17), (11, 46, 10, 18), (11, 49, 10, 19), (11, 52, 10, 20)] : List (Nat × Nat × Nat × Nat)), vm_ff q.1 q.2.1 q.2.2.1 q.2.2.2 := List.forall_mem_cons.mpr ⟨vm_f48, List.forall_mem_cons.mpr ⟨vm_f49, List.forall_mem_cons.mpr ⟨vm_f50, List.forall_mem_cons.mpr ⟨vm_f51, List.forall_mem_cons.mpr ⟨vm_f52, List.forall_mem_cons.mpr ⟨vm_f53, List.forall_mem_cons.mpr ⟨vm_f54, List.forall_mem_cons.mpr ⟨vm_f55, List.forall_mem_cons.mpr ⟨vm_f56, List.forall_mem_cons.mpr ⟨vm_f57, List.forall_mem_cons.mpr ⟨vm_f58, List.forall_mem_cons.mpr ⟨vm_f59, List.forall_mem_cons.mpr ⟨vm_f60, List.forall_mem_cons.mpr ⟨vm_f61, List.forall_mem_cons.mpr ⟨vm_f62, List.forall_mem_cons.mpr ⟨vm_f63, fun _ h => absurd h List.not_mem_nil⟩⟩⟩⟩⟩⟩⟩⟩⟩⟩⟩⟩⟩⟩⟩⟩
theorem vm_fT_4 : ∀ q ∈ ([(11, 55, 10, 21), (11, 58, 10, 22), (11, 72, 10, 5), (11, 76, 10, 7), (11, 79, 10, 9), (11, 90, 10, 11), (11, 93, 10, 12), (11, 108, 10, 13)] : List (Nat × Nat × Nat × Nat)), vm_ff q.1 q.2.1 q.2.2.1 q.2.2.2 := List.forall_mem_cons.mpr ⟨vm_f64, List.forall_mem_cons.mpr ⟨vm_f65, List.forall_mem_cons.mpr ⟨vm_f66, List.forall_mem_cons.mpr ⟨vm_f67, List.forall_mem_cons.mpr ⟨vm_f68, List.forall_mem_cons.mpr ⟨vm_f69, List.forall_mem_cons.mpr ⟨vm_f70, List.forall_mem_cons.mpr ⟨vm_f71, fun _ h => absurd h List.not_mem_nil⟩⟩⟩⟩⟩⟩⟩⟩
set_option maxRecDepth 100000 in
theorem vm_fT_eq : vm_fT = [(0, 16, 0, 1), (0, 20, 0, 0), (0, 27, 0, 2), (1, 14, 1, 1), (1, 20, 1, 2), (1, 23, 1, 0), (3, 14, 2, 1), (3, 20, 2, 2), (3, 23, 2, 0), (3, 33, 2, 3), (3, 43, 2, 4), (4, 16, 3, 1), (4, 20, 3, 2), (4, 23, 3, 3), (4, 26, 3, 4), (4, 29, 3, 5)] ++ ([(4, 32, 3, 0), (5, 16, 4, 1), (5, 23, 4, 2), (5, 32, 4, 3), (5, 36, 4, 0), (5, 51, 4, 4), (6, 15, 5, 0), (6, 21, 5, 1), (7, 15, 6, 0), (7, 24, 6, 2), (7, 32, 6, 1), (8, 14, 7, 0), (8, 20, 7, 1), (8, 23, 7, 2), (8, 26, 7, 3), (8, 29, 7, 4)] ++ ([(9, 14, 8, 1), (9, 20, 8, 2), (9, 23, 8, 0), (9, 39, 8, 3), (9, 52, 8, 4), (10, 14, 9, 0), (10, 18, 9, 1), (10, 24, 9, 2), (10, 33, 9, 3), (10, 37, 9, 4), (10, 45, 9, 5), (10, 49, 9, 6), (10, 57, 9, 7), (10, 64, 9, 8), (10, 71, 9, 9), (10, 78, 9, 10)] ++ ([(10, 85, 9, 11), (11, 7, 10, 0), (11, 13, 10, 1), (11, 16, 10, 2), (11, 19, 10, 3), (11, 22, 10, 4), (11, 25, 10, 6), (11, 28, 10, 8), (11, 31, 10, 10), (11, 34, 10, 14), (11, 37, 10, 15), (11, 40, 10, 16), (11, 43, 10, 17), (11, 46, 10, 18), (11, 49, 10, 19), (11, 52, 10, 20)] ++ ([(11, 55, 10, 21), (11, 58, 10, 22), (11, 72, 10, 5), (11, 76, 10, 7), (11, 79, 10, 9), (11, 90, 10, 11), (11, 93, 10, 12), (11, 108, 10, 13)])))) := rfl
theorem vm_fT_ok : ∀ q ∈ vm_fT, vm_ff q.1 q.2.1 q.2.2.1 q.2.2.2 := by
  rw [vm_fT_eq]
  exact List.forall_mem_append.mpr ⟨vm_fT_0, List.forall_mem_append.mpr ⟨vm_fT_1, List.forall_mem_append.mpr ⟨vm_fT_2, List.forall_mem_append.mpr ⟨vm_fT_3, vm_fT_4⟩⟩⟩⟩
def vm_nest : List (String × Nat × MethodName × String) := [(RX10, 23, yX8_init, "EmberTale"), (RX5, 22, yX8_init, "EmberTale"), (RX8, 51, yX10_within, "EmberTale"), (RX0, 49, yX10_within, "EmberTale"), (RX8, 63, yX10_isWood, "EmberTale")]
def vm_link (own : String) (i a : Nat) (r : vm_M) : Prop := match a with
  | 0 => Cond.methodLink own i r.2.1 ∈ vm_G ∧ Cond.instanceMethod r.2.1 ∈ vm_G ∧ Cond.selects r.2.1.cls r.2.1 r.2.1 ∈ vm_G
  | 1 => Cond.methodLink own i r.2.1 ∈ vm_G ∧ Cond.static r.2.1 ∈ vm_G
  | 2 => Cond.methodLink own i r.2.1 ∈ vm_G ∧ Cond.instanceMethod r.2.1 ∈ vm_G ∧ r.2.1.name = "<init>" ∧ r.2.2.2.2.1 = none
  | 3 => (∃ h, (own, i, r.2.1, h) ∈ vm_nest) ∧ Cond.static r.2.1 ∈ vm_G
  | 4 => (∃ h, (own, i, r.2.1, h) ∈ vm_nest) ∧ Cond.instanceMethod r.2.1 ∈ vm_G ∧ r.2.1.name = "<init>" ∧ r.2.2.2.2.1 = none
  | 5 => Cond.methodLink own i objectInit ∈ vm_G
  | 6 => Cond.methodLink own i yJ0_length_8abf5 ∈ vm_G
  | 7 => Cond.methodLink own i yJ0_charAt_5068e ∈ vm_G
  | _ => False
/-- a call's row: own class, index, kind, callee, arguments + 100 × the receiver's class -/
def vm_cf (o i a b c : Nat) : Prop := ∃ (own : String) (r : vm_M), vm_nm[o]? = some own ∧ vm_MT[b]? = some r ∧ vm_link own i a r ∧ (a < 5 → (parseMethodDescriptor r.2.1.desc).map (fun d => d.parameters.length) = some (c % 100)) ∧ (a = 0 → (vwCl[c / 100]?).map (fun x => x.1) = some r.2.1.cls)
theorem vm_l0 : vm_cf 0 3 5 0 0 := ⟨RX0, vm_m0, rfl, rfl, vm_r4 _ (List.mem_of_getElem? (i := 1) rfl), fun h => absurd h (by decide), fun h => absurd h (by decide)⟩
theorem vm_l1 : vm_cf 0 13 2 54 1 := ⟨RX0, vm_m54, rfl, rfl, ⟨vm_r4 _ (List.mem_of_getElem? (i := 5) rfl), vm_r3 _ (List.mem_of_getElem? (i := 4) rfl), rfl, rfl⟩, fun _ => by decide +kernel, fun h => absurd h (by decide)⟩
theorem vm_l2 : vm_cf 0 24 0 57 500 := ⟨RX0, vm_m57, rfl, rfl, ⟨vm_r9 _ (List.mem_of_getElem? (i := 23) rfl), vm_r9 _ (List.mem_of_getElem? (i := 15) rfl), vm_r9 _ (List.mem_of_getElem? (i := 16) rfl)⟩, fun _ => by decide +kernel, fun _ => by decide +kernel⟩
theorem vm_l3 : vm_cf 0 31 0 62 501 := ⟨RX0, vm_m62, rfl, rfl, ⟨vm_r14 _ (List.mem_of_getElem? (i := 3) rfl), vm_r13 _ (List.mem_of_getElem? (i := 12) rfl), vm_r13 _ (List.mem_of_getElem? (i := 13) rfl)⟩, fun _ => by decide +kernel, fun _ => by decide +kernel⟩
theorem vm_l4 : vm_cf 0 35 0 56 500 := ⟨RX0, vm_m56, rfl, rfl, ⟨vm_r12 _ (List.mem_of_getElem? (i := 5) rfl), vm_r11 _ (List.mem_of_getElem? (i := 6) rfl), vm_r11 _ (List.mem_of_getElem? (i := 7) rfl)⟩, fun _ => by decide +kernel, fun _ => by decide +kernel⟩
theorem vm_l5 : vm_cf 0 39 0 59 501 := ⟨RX0, vm_m59, rfl, rfl, ⟨vm_r12 _ (List.mem_of_getElem? (i := 6) rfl), vm_r10 _ (List.mem_of_getElem? (i := 13) rfl), vm_r10 _ (List.mem_of_getElem? (i := 14) rfl)⟩, fun _ => by decide +kernel, fun _ => by decide +kernel⟩
theorem vm_l6 : vm_cf 0 43 0 76 701 := ⟨RX0, vm_m76, rfl, rfl, ⟨vm_r12 _ (List.mem_of_getElem? (i := 7) rfl), vm_r12 _ (List.mem_of_getElem? (i := 8) rfl), vm_r12 _ (List.mem_of_getElem? (i := 9) rfl)⟩, fun _ => by decide +kernel, fun _ => by decide +kernel⟩
theorem vm_l7 : vm_cf 0 49 3 126 3 := ⟨RX0, vm_m126, rfl, rfl, ⟨⟨"EmberTale", List.mem_of_getElem? (i := 3) rfl⟩, vm_r11 _ (List.mem_of_getElem? (i := 23) rfl)⟩, fun _ => by decide +kernel, fun h => absurd h (by decide)⟩
theorem vm_l8 : vm_cf 0 53 0 58 501 := ⟨RX0, vm_m58, rfl, rfl, ⟨vm_r12 _ (List.mem_of_getElem? (i := 11) rfl), vm_r8 _ (List.mem_of_getElem? (i := 20) rfl), vm_r8 _ (List.mem_of_getElem? (i := 21) rfl)⟩, fun _ => by decide +kernel, fun _ => by decide +kernel⟩
theorem vm_l9 : vm_cf 0 56 0 55 500 := ⟨RX0, vm_m55, rfl, rfl, ⟨vm_r12 _ (List.mem_of_getElem? (i := 20) rfl), vm_r10 _ (List.mem_of_getElem? (i := 1) rfl), vm_r10 _ (List.mem_of_getElem? (i := 2) rfl)⟩, fun _ => by decide +kernel, fun _ => by decide +kernel⟩
theorem vm_l10 : vm_cf 0 60 0 4 0 := ⟨RX0, vm_m4, rfl, rfl, ⟨vm_r22 _ (List.mem_of_getElem? (i := 1) rfl), vm_r12 _ (List.mem_of_getElem? (i := 17) rfl), vm_r12 _ (List.mem_of_getElem? (i := 18) rfl)⟩, fun _ => by decide +kernel, fun _ => by decide +kernel⟩
theorem vm_l11 : vm_cf 0 63 0 60 502 := ⟨RX0, vm_m60, rfl, rfl, ⟨vm_r24 _ (List.mem_of_getElem? (i := 6) rfl), vm_r24 _ (List.mem_of_getElem? (i := 7) rfl), vm_r24 _ (List.mem_of_getElem? (i := 8) rfl)⟩, fun _ => by decide +kernel, fun _ => by decide +kernel⟩
theorem vm_l12 : vm_cf 0 67 0 7 2 := ⟨RX0, vm_m7, rfl, rfl, ⟨vm_r23 _ (List.mem_of_getElem? (i := 2) rfl), vm_r22 _ (List.mem_of_getElem? (i := 3) rfl), vm_r22 _ (List.mem_of_getElem? (i := 4) rfl)⟩, fun _ => by decide +kernel, fun _ => by decide +kernel⟩
theorem vm_l13 : vm_cf 0 70 0 8 3 := ⟨RX0, vm_m8, rfl, rfl, ⟨vm_r24 _ (List.mem_of_getElem? (i := 2) rfl), vm_r24 _ (List.mem_of_getElem? (i := 3) rfl), vm_r24 _ (List.mem_of_getElem? (i := 4) rfl)⟩, fun _ => by decide +kernel, fun _ => by decide +kernel⟩
theorem vm_l14 : vm_cf 0 73 0 10 1 := ⟨RX0, vm_m10, rfl, rfl, ⟨vm_r22 _ (List.mem_of_getElem? (i := 22) rfl), vm_r22 _ (List.mem_of_getElem? (i := 23) rfl), vm_r23 _ (List.mem_of_getElem? (i := 0) rfl)⟩, fun _ => by decide +kernel, fun _ => by decide +kernel⟩
theorem vm_l15 : vm_cf 0 76 0 9 3 := ⟨RX0, vm_m9, rfl, rfl, ⟨vm_r23 _ (List.mem_of_getElem? (i := 22) rfl), vm_r23 _ (List.mem_of_getElem? (i := 23) rfl), vm_r24 _ (List.mem_of_getElem? (i := 0) rfl)⟩, fun _ => by decide +kernel, fun _ => by decide +kernel⟩
theorem vm_l16 : vm_cf 0 79 1 30 2 := ⟨RX0, vm_m30, rfl, rfl, ⟨vm_r24 _ (List.mem_of_getElem? (i := 10) rfl), vm_r24 _ (List.mem_of_getElem? (i := 11) rfl)⟩, fun _ => by decide +kernel, fun h => absurd h (by decide)⟩
theorem vm_l17 : vm_cf 0 84 0 13 2 := ⟨RX0, vm_m13, rfl, rfl, ⟨vm_r24 _ (List.mem_of_getElem? (i := 21) rfl), vm_r24 _ (List.mem_of_getElem? (i := 22) rfl), vm_r24 _ (List.mem_of_getElem? (i := 23) rfl)⟩, fun _ => by decide +kernel, fun _ => by decide +kernel⟩
theorem vm_l18 : vm_cf 0 87 0 78 702 := ⟨RX0, vm_m78, rfl, rfl, ⟨vm_r25 _ (List.mem_of_getElem? (i := 1) rfl), vm_r19 _ (List.mem_of_getElem? (i := 21) rfl), vm_r19 _ (List.mem_of_getElem? (i := 22) rfl)⟩, fun _ => by decide +kernel, fun _ => by decide +kernel⟩
theorem vm_l19 : vm_cf 0 90 0 80 701 := ⟨RX0, vm_m80, rfl, rfl, ⟨vm_r26 _ (List.mem_of_getElem? (i := 7) rfl), vm_r21 _ (List.mem_of_getElem? (i := 1) rfl), vm_r21 _ (List.mem_of_getElem? (i := 2) rfl)⟩, fun _ => by decide +kernel, fun _ => by decide +kernel⟩
theorem vm_l20 : vm_cf 0 93 1 31 3 := ⟨RX0, vm_m31, rfl, rfl, ⟨vm_r26 _ (List.mem_of_getElem? (i := 8) rfl), vm_r26 _ (List.mem_of_getElem? (i := 9) rfl)⟩, fun _ => by decide +kernel, fun h => absurd h (by decide)⟩
theorem vm_l21 : vm_cf 0 97 1 203 2 := ⟨RX0, vm_m203, rfl, rfl, ⟨vm_r28 _ (List.mem_of_getElem? (i := 18) rfl), vm_r24 _ (List.mem_of_getElem? (i := 15) rfl)⟩, fun _ => by decide +kernel, fun h => absurd h (by decide)⟩
theorem vm_l22 : vm_cf 0 102 0 14 0 := ⟨RX0, vm_m14, rfl, rfl, ⟨vm_r42 _ (List.mem_of_getElem? (i := 23) rfl), vm_r26 _ (List.mem_of_getElem? (i := 4) rfl), vm_r26 _ (List.mem_of_getElem? (i := 5) rfl)⟩, fun _ => by decide +kernel, fun _ => by decide +kernel⟩
theorem vm_l23 : vm_cf 0 105 0 15 2 := ⟨RX0, vm_m15, rfl, rfl, ⟨vm_r43 _ (List.mem_of_getElem? (i := 0) rfl), vm_r27 _ (List.mem_of_getElem? (i := 16) rfl), vm_r27 _ (List.mem_of_getElem? (i := 17) rfl)⟩, fun _ => by decide +kernel, fun _ => by decide +kernel⟩
theorem vm_l24 : vm_cf 0 109 0 16 2 := ⟨RX0, vm_m16, rfl, rfl, ⟨vm_r43 _ (List.mem_of_getElem? (i := 1) rfl), vm_r27 _ (List.mem_of_getElem? (i := 20) rfl), vm_r27 _ (List.mem_of_getElem? (i := 21) rfl)⟩, fun _ => by decide +kernel, fun _ => by decide +kernel⟩
theorem vm_l25 : vm_cf 0 112 0 11 2 := ⟨RX0, vm_m11, rfl, rfl, ⟨vm_r43 _ (List.mem_of_getElem? (i := 2) rfl), vm_r22 _ (List.mem_of_getElem? (i := 19) rfl), vm_r22 _ (List.mem_of_getElem? (i := 20) rfl)⟩, fun _ => by decide +kernel, fun _ => by decide +kernel⟩
theorem vm_l26 : vm_cf 0 115 0 12 2 := ⟨RX0, vm_m12, rfl, rfl, ⟨vm_r43 _ (List.mem_of_getElem? (i := 3) rfl), vm_r23 _ (List.mem_of_getElem? (i := 19) rfl), vm_r23 _ (List.mem_of_getElem? (i := 20) rfl)⟩, fun _ => by decide +kernel, fun _ => by decide +kernel⟩
theorem vm_l27 : vm_cf 1 3 5 0 0 := ⟨RX1, vm_m0, rfl, rfl, vm_r6 _ (List.mem_of_getElem? (i := 12) rfl), fun h => absurd h (by decide), fun h => absurd h (by decide)⟩
theorem vm_l28 : vm_cf 1 11 2 54 1 := ⟨RX1, vm_m54, rfl, rfl, ⟨vm_r6 _ (List.mem_of_getElem? (i := 17) rfl), vm_r3 _ (List.mem_of_getElem? (i := 4) rfl), rfl, rfl⟩, fun _ => by decide +kernel, fun h => absurd h (by decide)⟩
theorem vm_l29 : vm_cf 1 27 0 61 501 := ⟨RX1, vm_m61, rfl, rfl, ⟨vm_r41 _ (List.mem_of_getElem? (i := 6) rfl), vm_r31 _ (List.mem_of_getElem? (i := 19) rfl), vm_r31 _ (List.mem_of_getElem? (i := 20) rfl)⟩, fun _ => by decide +kernel, fun _ => by decide +kernel⟩
theorem vm_l30 : vm_cf 1 32 0 7 2 := ⟨RX1, vm_m7, rfl, rfl, ⟨vm_r41 _ (List.mem_of_getElem? (i := 7) rfl), vm_r22 _ (List.mem_of_getElem? (i := 3) rfl), vm_r22 _ (List.mem_of_getElem? (i := 4) rfl)⟩, fun _ => by decide +kernel, fun _ => by decide +kernel⟩
theorem vm_l31 : vm_cf 1 36 0 60 502 := ⟨RX1, vm_m60, rfl, rfl, ⟨vm_r41 _ (List.mem_of_getElem? (i := 8) rfl), vm_r24 _ (List.mem_of_getElem? (i := 7) rfl), vm_r24 _ (List.mem_of_getElem? (i := 8) rfl)⟩, fun _ => by decide +kernel, fun _ => by decide +kernel⟩
theorem vm_l32 : vm_cf 1 40 0 5 0 := ⟨RX1, vm_m5, rfl, rfl, ⟨vm_r41 _ (List.mem_of_getElem? (i := 9) rfl), vm_r20 _ (List.mem_of_getElem? (i := 21) rfl), vm_r20 _ (List.mem_of_getElem? (i := 22) rfl)⟩, fun _ => by decide +kernel, fun _ => by decide +kernel⟩
theorem vm_l33 : vm_cf 1 44 0 80 701 := ⟨RX1, vm_m80, rfl, rfl, ⟨vm_r41 _ (List.mem_of_getElem? (i := 10) rfl), vm_r21 _ (List.mem_of_getElem? (i := 1) rfl), vm_r21 _ (List.mem_of_getElem? (i := 2) rfl)⟩, fun _ => by decide +kernel, fun _ => by decide +kernel⟩
theorem vm_l34 : vm_cf 1 50 0 27 103 := ⟨RX1, vm_m27, rfl, rfl, ⟨vm_r41 _ (List.mem_of_getElem? (i := 11) rfl), vm_r41 _ (List.mem_of_getElem? (i := 12) rfl), vm_r41 _ (List.mem_of_getElem? (i := 13) rfl)⟩, fun _ => by decide +kernel, fun _ => by decide +kernel⟩
theorem vm_l35 : vm_cf 1 54 0 59 501 := ⟨RX1, vm_m59, rfl, rfl, ⟨vm_r41 _ (List.mem_of_getElem? (i := 16) rfl), vm_r10 _ (List.mem_of_getElem? (i := 13) rfl), vm_r10 _ (List.mem_of_getElem? (i := 14) rfl)⟩, fun _ => by decide +kernel, fun _ => by decide +kernel⟩
theorem vm_l36 : vm_cf 1 56 1 29 2 := ⟨RX1, vm_m29, rfl, rfl, ⟨vm_r41 _ (List.mem_of_getElem? (i := 22) rfl), vm_r41 _ (List.mem_of_getElem? (i := 23) rfl)⟩, fun _ => by decide +kernel, fun h => absurd h (by decide)⟩
theorem vm_l37 : vm_cf 1 59 1 31 3 := ⟨RX1, vm_m31, rfl, rfl, ⟨vm_r41 _ (List.mem_of_getElem? (i := 15) rfl), vm_r26 _ (List.mem_of_getElem? (i := 9) rfl)⟩, fun _ => by decide +kernel, fun h => absurd h (by decide)⟩
theorem vm_l38 : vm_cf 1 65 0 28 102 := ⟨RX1, vm_m28, rfl, rfl, ⟨vm_r41 _ (List.mem_of_getElem? (i := 17) rfl), vm_r41 _ (List.mem_of_getElem? (i := 18) rfl), vm_r41 _ (List.mem_of_getElem? (i := 19) rfl)⟩, fun _ => by decide +kernel, fun _ => by decide +kernel⟩
theorem vm_l39 : vm_cf 1 68 0 62 501 := ⟨RX1, vm_m62, rfl, rfl, ⟨vm_r41 _ (List.mem_of_getElem? (i := 21) rfl), vm_r13 _ (List.mem_of_getElem? (i := 12) rfl), vm_r13 _ (List.mem_of_getElem? (i := 13) rfl)⟩, fun _ => by decide +kernel, fun _ => by decide +kernel⟩
theorem vm_l40 : vm_cf 2 9 1 32 1 := ⟨RX2, vm_m32, rfl, rfl, ⟨vm_r24 _ (List.mem_of_getElem? (i := 18) rfl), vm_r24 _ (List.mem_of_getElem? (i := 19) rfl)⟩, fun _ => by decide +kernel, fun h => absurd h (by decide)⟩
theorem vm_l41 : vm_cf 2 15 1 203 2 := ⟨RX2, vm_m203, rfl, rfl, ⟨vm_r24 _ (List.mem_of_getElem? (i := 14) rfl), vm_r24 _ (List.mem_of_getElem? (i := 15) rfl)⟩, fun _ => by decide +kernel, fun h => absurd h (by decide)⟩
theorem vm_l42 : vm_cf 2 21 1 202 2 := ⟨RX2, vm_m202, rfl, rfl, ⟨vm_r24 _ (List.mem_of_getElem? (i := 17) rfl), vm_r3 _ (List.mem_of_getElem? (i := 8) rfl)⟩, fun _ => by decide +kernel, fun h => absurd h (by decide)⟩
theorem vm_l43 : vm_cf 3 3 5 0 0 := ⟨RX3, vm_m0, rfl, rfl, vm_r5 _ (List.mem_of_getElem? (i := 6) rfl), fun h => absurd h (by decide), fun h => absurd h (by decide)⟩
theorem vm_l44 : vm_cf 3 11 2 54 1 := ⟨RX3, vm_m54, rfl, rfl, ⟨vm_r5 _ (List.mem_of_getElem? (i := 11) rfl), vm_r3 _ (List.mem_of_getElem? (i := 4) rfl), rfl, rfl⟩, fun _ => by decide +kernel, fun h => absurd h (by decide)⟩
theorem vm_l45 : vm_cf 3 27 0 5 0 := ⟨RX3, vm_m5, rfl, rfl, ⟨vm_r31 _ (List.mem_of_getElem? (i := 14) rfl), vm_r20 _ (List.mem_of_getElem? (i := 21) rfl), vm_r20 _ (List.mem_of_getElem? (i := 22) rfl)⟩, fun _ => by decide +kernel, fun _ => by decide +kernel⟩
theorem vm_l46 : vm_cf 3 37 1 203 2 := ⟨RX3, vm_m203, rfl, rfl, ⟨vm_r31 _ (List.mem_of_getElem? (i := 12) rfl), vm_r24 _ (List.mem_of_getElem? (i := 15) rfl)⟩, fun _ => by decide +kernel, fun h => absurd h (by decide)⟩
theorem vm_l47 : vm_cf 3 45 0 57 500 := ⟨RX3, vm_m57, rfl, rfl, ⟨vm_r31 _ (List.mem_of_getElem? (i := 15) rfl), vm_r9 _ (List.mem_of_getElem? (i := 15) rfl), vm_r9 _ (List.mem_of_getElem? (i := 16) rfl)⟩, fun _ => by decide +kernel, fun _ => by decide +kernel⟩
theorem vm_l48 : vm_cf 3 48 0 7 2 := ⟨RX3, vm_m7, rfl, rfl, ⟨vm_r31 _ (List.mem_of_getElem? (i := 16) rfl), vm_r22 _ (List.mem_of_getElem? (i := 3) rfl), vm_r22 _ (List.mem_of_getElem? (i := 4) rfl)⟩, fun _ => by decide +kernel, fun _ => by decide +kernel⟩
theorem vm_l49 : vm_cf 3 51 0 58 501 := ⟨RX3, vm_m58, rfl, rfl, ⟨vm_r31 _ (List.mem_of_getElem? (i := 17) rfl), vm_r8 _ (List.mem_of_getElem? (i := 20) rfl), vm_r8 _ (List.mem_of_getElem? (i := 21) rfl)⟩, fun _ => by decide +kernel, fun _ => by decide +kernel⟩
theorem vm_l50 : vm_cf 3 54 0 61 501 := ⟨RX3, vm_m61, rfl, rfl, ⟨vm_r31 _ (List.mem_of_getElem? (i := 18) rfl), vm_r31 _ (List.mem_of_getElem? (i := 19) rfl), vm_r31 _ (List.mem_of_getElem? (i := 20) rfl)⟩, fun _ => by decide +kernel, fun _ => by decide +kernel⟩
theorem vm_l51 : vm_cf 3 57 0 36 204 := ⟨RX3, vm_m36, rfl, rfl, ⟨vm_r31 _ (List.mem_of_getElem? (i := 22) rfl), vm_r31 _ (List.mem_of_getElem? (i := 23) rfl), vm_r32 _ (List.mem_of_getElem? (i := 0) rfl)⟩, fun _ => by decide +kernel, fun _ => by decide +kernel⟩
theorem vm_l52 : vm_cf 3 61 0 59 501 := ⟨RX3, vm_m59, rfl, rfl, ⟨vm_r32 _ (List.mem_of_getElem? (i := 10) rfl), vm_r10 _ (List.mem_of_getElem? (i := 13) rfl), vm_r10 _ (List.mem_of_getElem? (i := 14) rfl)⟩, fun _ => by decide +kernel, fun _ => by decide +kernel⟩
theorem vm_l53 : vm_cf 3 64 0 37 204 := ⟨RX3, vm_m37, rfl, rfl, ⟨vm_r32 _ (List.mem_of_getElem? (i := 2) rfl), vm_r32 _ (List.mem_of_getElem? (i := 3) rfl), vm_r32 _ (List.mem_of_getElem? (i := 4) rfl)⟩, fun _ => by decide +kernel, fun _ => by decide +kernel⟩
theorem vm_l54 : vm_cf 3 67 0 60 502 := ⟨RX3, vm_m60, rfl, rfl, ⟨vm_r32 _ (List.mem_of_getElem? (i := 5) rfl), vm_r24 _ (List.mem_of_getElem? (i := 7) rfl), vm_r24 _ (List.mem_of_getElem? (i := 8) rfl)⟩, fun _ => by decide +kernel, fun _ => by decide +kernel⟩
theorem vm_l55 : vm_cf 3 71 0 80 701 := ⟨RX3, vm_m80, rfl, rfl, ⟨vm_r32 _ (List.mem_of_getElem? (i := 6) rfl), vm_r21 _ (List.mem_of_getElem? (i := 1) rfl), vm_r21 _ (List.mem_of_getElem? (i := 2) rfl)⟩, fun _ => by decide +kernel, fun _ => by decide +kernel⟩
theorem vm_l56 : vm_cf 3 76 1 31 3 := ⟨RX3, vm_m31, rfl, rfl, ⟨vm_r32 _ (List.mem_of_getElem? (i := 7) rfl), vm_r26 _ (List.mem_of_getElem? (i := 9) rfl)⟩, fun _ => by decide +kernel, fun h => absurd h (by decide)⟩
theorem vm_l57 : vm_cf 3 82 1 30 2 := ⟨RX3, vm_m30, rfl, rfl, ⟨vm_r32 _ (List.mem_of_getElem? (i := 9) rfl), vm_r24 _ (List.mem_of_getElem? (i := 11) rfl)⟩, fun _ => by decide +kernel, fun h => absurd h (by decide)⟩
theorem vm_l58 : vm_cf 4 3 5 0 0 := ⟨RX4, vm_m0, rfl, rfl, vm_r6 _ (List.mem_of_getElem? (i := 0) rfl), fun h => absurd h (by decide), fun h => absurd h (by decide)⟩
theorem vm_l59 : vm_cf 4 13 2 54 1 := ⟨RX4, vm_m54, rfl, rfl, ⟨vm_r6 _ (List.mem_of_getElem? (i := 8) rfl), vm_r3 _ (List.mem_of_getElem? (i := 4) rfl), rfl, rfl⟩, fun _ => by decide +kernel, fun h => absurd h (by decide)⟩
theorem vm_l60 : vm_cf 4 36 0 57 500 := ⟨RX4, vm_m57, rfl, rfl, ⟨vm_r36 _ (List.mem_of_getElem? (i := 8) rfl), vm_r9 _ (List.mem_of_getElem? (i := 15) rfl), vm_r9 _ (List.mem_of_getElem? (i := 16) rfl)⟩, fun _ => by decide +kernel, fun _ => by decide +kernel⟩
theorem vm_l61 : vm_cf 4 39 0 61 501 := ⟨RX4, vm_m61, rfl, rfl, ⟨vm_r36 _ (List.mem_of_getElem? (i := 9) rfl), vm_r31 _ (List.mem_of_getElem? (i := 19) rfl), vm_r31 _ (List.mem_of_getElem? (i := 20) rfl)⟩, fun _ => by decide +kernel, fun _ => by decide +kernel⟩
theorem vm_l62 : vm_cf 4 42 0 41 304 := ⟨RX4, vm_m41, rfl, rfl, ⟨vm_r36 _ (List.mem_of_getElem? (i := 10) rfl), vm_r36 _ (List.mem_of_getElem? (i := 11) rfl), vm_r36 _ (List.mem_of_getElem? (i := 12) rfl)⟩, fun _ => by decide +kernel, fun _ => by decide +kernel⟩
theorem vm_l63 : vm_cf 4 46 0 55 500 := ⟨RX4, vm_m55, rfl, rfl, ⟨vm_r36 _ (List.mem_of_getElem? (i := 17) rfl), vm_r10 _ (List.mem_of_getElem? (i := 1) rfl), vm_r10 _ (List.mem_of_getElem? (i := 2) rfl)⟩, fun _ => by decide +kernel, fun _ => by decide +kernel⟩
theorem vm_l64 : vm_cf 4 50 0 59 501 := ⟨RX4, vm_m59, rfl, rfl, ⟨vm_r36 _ (List.mem_of_getElem? (i := 14) rfl), vm_r10 _ (List.mem_of_getElem? (i := 13) rfl), vm_r10 _ (List.mem_of_getElem? (i := 14) rfl)⟩, fun _ => by decide +kernel, fun _ => by decide +kernel⟩
theorem vm_l65 : vm_cf 4 54 0 42 301 := ⟨RX4, vm_m42, rfl, rfl, ⟨vm_r36 _ (List.mem_of_getElem? (i := 18) rfl), vm_r36 _ (List.mem_of_getElem? (i := 19) rfl), vm_r36 _ (List.mem_of_getElem? (i := 20) rfl)⟩, fun _ => by decide +kernel, fun _ => by decide +kernel⟩
theorem vm_l66 : vm_cf 4 57 0 79 702 := ⟨RX4, vm_m79, rfl, rfl, ⟨vm_r36 _ (List.mem_of_getElem? (i := 22) rfl), vm_r34 _ (List.mem_of_getElem? (i := 9) rfl), vm_r34 _ (List.mem_of_getElem? (i := 10) rfl)⟩, fun _ => by decide +kernel, fun _ => by decide +kernel⟩
theorem vm_l67 : vm_cf 4 63 0 60 502 := ⟨RX4, vm_m60, rfl, rfl, ⟨vm_r36 _ (List.mem_of_getElem? (i := 15) rfl), vm_r24 _ (List.mem_of_getElem? (i := 7) rfl), vm_r24 _ (List.mem_of_getElem? (i := 8) rfl)⟩, fun _ => by decide +kernel, fun _ => by decide +kernel⟩
theorem vm_l68 : vm_cf 4 67 0 58 501 := ⟨RX4, vm_m58, rfl, rfl, ⟨vm_r36 _ (List.mem_of_getElem? (i := 16) rfl), vm_r8 _ (List.mem_of_getElem? (i := 20) rfl), vm_r8 _ (List.mem_of_getElem? (i := 21) rfl)⟩, fun _ => by decide +kernel, fun _ => by decide +kernel⟩
theorem vm_l69 : vm_cf 5 3 5 0 0 := ⟨RX5, vm_m0, rfl, rfl, vm_r4 _ (List.mem_of_getElem? (i := 17) rfl), fun h => absurd h (by decide), fun h => absurd h (by decide)⟩
theorem vm_l70 : vm_cf 5 13 2 54 1 := ⟨RX5, vm_m54, rfl, rfl, ⟨vm_r5 _ (List.mem_of_getElem? (i := 1) rfl), vm_r3 _ (List.mem_of_getElem? (i := 4) rfl), rfl, rfl⟩, fun _ => by decide +kernel, fun h => absurd h (by decide)⟩
theorem vm_l71 : vm_cf 5 22 4 70 0 := ⟨RX5, vm_m70, rfl, rfl, ⟨⟨"EmberTale", List.mem_of_getElem? (i := 1) rfl⟩, vm_r3 _ (List.mem_of_getElem? (i := 13) rfl), rfl, rfl⟩, fun _ => by decide +kernel, fun h => absurd h (by decide)⟩
theorem vm_l72 : vm_cf 5 29 2 0 1 := ⟨RX5, vm_m0, rfl, rfl, ⟨vm_r5 _ (List.mem_of_getElem? (i := 2) rfl), vm_r3 _ (List.mem_of_getElem? (i := 23) rfl), rfl, rfl⟩, fun _ => by decide +kernel, fun h => absurd h (by decide)⟩
theorem vm_l73 : vm_cf 5 39 0 4 0 := ⟨RX5, vm_m4, rfl, rfl, ⟨vm_r12 _ (List.mem_of_getElem? (i := 16) rfl), vm_r12 _ (List.mem_of_getElem? (i := 17) rfl), vm_r12 _ (List.mem_of_getElem? (i := 18) rfl)⟩, fun _ => by decide +kernel, fun _ => by decide +kernel⟩
theorem vm_l74 : vm_cf 5 43 0 77 700 := ⟨RX5, vm_m77, rfl, rfl, ⟨vm_r12 _ (List.mem_of_getElem? (i := 21) rfl), vm_r12 _ (List.mem_of_getElem? (i := 22) rfl), vm_r12 _ (List.mem_of_getElem? (i := 23) rfl)⟩, fun _ => by decide +kernel, fun _ => by decide +kernel⟩
theorem vm_l75 : vm_cf 5 47 0 71 700 := ⟨RX5, vm_m71, rfl, rfl, ⟨vm_r9 _ (List.mem_of_getElem? (i := 9) rfl), vm_r9 _ (List.mem_of_getElem? (i := 10) rfl), vm_r9 _ (List.mem_of_getElem? (i := 11) rfl)⟩, fun _ => by decide +kernel, fun _ => by decide +kernel⟩
theorem vm_l76 : vm_cf 5 50 0 1 0 := ⟨RX5, vm_m1, rfl, rfl, ⟨vm_r9 _ (List.mem_of_getElem? (i := 18) rfl), vm_r9 _ (List.mem_of_getElem? (i := 19) rfl), vm_r9 _ (List.mem_of_getElem? (i := 20) rfl)⟩, fun _ => by decide +kernel, fun _ => by decide +kernel⟩
theorem vm_l77 : vm_cf 5 55 0 55 500 := ⟨RX5, vm_m55, rfl, rfl, ⟨vm_r10 _ (List.mem_of_getElem? (i := 0) rfl), vm_r10 _ (List.mem_of_getElem? (i := 1) rfl), vm_r10 _ (List.mem_of_getElem? (i := 2) rfl)⟩, fun _ => by decide +kernel, fun _ => by decide +kernel⟩
theorem vm_l78 : vm_cf 5 58 0 48 400 := ⟨RX5, vm_m48, rfl, rfl, ⟨vm_r10 _ (List.mem_of_getElem? (i := 4) rfl), vm_r10 _ (List.mem_of_getElem? (i := 5) rfl), vm_r10 _ (List.mem_of_getElem? (i := 6) rfl)⟩, fun _ => by decide +kernel, fun _ => by decide +kernel⟩
theorem vm_l79 : vm_cf 5 61 0 52 400 := ⟨RX5, vm_m52, rfl, rfl, ⟨vm_r10 _ (List.mem_of_getElem? (i := 8) rfl), vm_r10 _ (List.mem_of_getElem? (i := 9) rfl), vm_r10 _ (List.mem_of_getElem? (i := 10) rfl)⟩, fun _ => by decide +kernel, fun _ => by decide +kernel⟩
theorem vm_l80 : vm_cf 5 64 0 49 401 := ⟨RX5, vm_m49, rfl, rfl, ⟨vm_r10 _ (List.mem_of_getElem? (i := 16) rfl), vm_r10 _ (List.mem_of_getElem? (i := 17) rfl), vm_r10 _ (List.mem_of_getElem? (i := 18) rfl)⟩, fun _ => by decide +kernel, fun _ => by decide +kernel⟩
theorem vm_l81 : vm_cf 5 68 0 73 701 := ⟨RX5, vm_m73, rfl, rfl, ⟨vm_r11 _ (List.mem_of_getElem? (i := 1) rfl), vm_r11 _ (List.mem_of_getElem? (i := 2) rfl), vm_r11 _ (List.mem_of_getElem? (i := 3) rfl)⟩, fun _ => by decide +kernel, fun _ => by decide +kernel⟩
theorem vm_l82 : vm_cf 5 72 0 50 401 := ⟨RX5, vm_m50, rfl, rfl, ⟨vm_r11 _ (List.mem_of_getElem? (i := 11) rfl), vm_r11 _ (List.mem_of_getElem? (i := 12) rfl), vm_r11 _ (List.mem_of_getElem? (i := 13) rfl)⟩, fun _ => by decide +kernel, fun _ => by decide +kernel⟩
theorem vm_l83 : vm_cf 5 75 0 59 501 := ⟨RX5, vm_m59, rfl, rfl, ⟨vm_r10 _ (List.mem_of_getElem? (i := 12) rfl), vm_r10 _ (List.mem_of_getElem? (i := 13) rfl), vm_r10 _ (List.mem_of_getElem? (i := 14) rfl)⟩, fun _ => by decide +kernel, fun _ => by decide +kernel⟩
theorem vm_l84 : vm_cf 5 79 0 74 701 := ⟨RX5, vm_m74, rfl, rfl, ⟨vm_r11 _ (List.mem_of_getElem? (i := 19) rfl), vm_r11 _ (List.mem_of_getElem? (i := 20) rfl), vm_r11 _ (List.mem_of_getElem? (i := 21) rfl)⟩, fun _ => by decide +kernel, fun _ => by decide +kernel⟩
theorem vm_l85 : vm_cf 5 82 0 3 1 := ⟨RX5, vm_m3, rfl, rfl, ⟨vm_r12 _ (List.mem_of_getElem? (i := 1) rfl), vm_r12 _ (List.mem_of_getElem? (i := 2) rfl), vm_r12 _ (List.mem_of_getElem? (i := 3) rfl)⟩, fun _ => by decide +kernel, fun _ => by decide +kernel⟩
theorem vm_l86 : vm_cf 5 85 0 57 500 := ⟨RX5, vm_m57, rfl, rfl, ⟨vm_r10 _ (List.mem_of_getElem? (i := 20) rfl), vm_r9 _ (List.mem_of_getElem? (i := 15) rfl), vm_r9 _ (List.mem_of_getElem? (i := 16) rfl)⟩, fun _ => by decide +kernel, fun _ => by decide +kernel⟩
theorem vm_l87 : vm_cf 5 86 1 53 1 := ⟨RX5, vm_m53, rfl, rfl, ⟨vm_r10 _ (List.mem_of_getElem? (i := 21) rfl), vm_r10 _ (List.mem_of_getElem? (i := 22) rfl)⟩, fun _ => by decide +kernel, fun h => absurd h (by decide)⟩
theorem vm_l88 : vm_cf 5 89 0 58 501 := ⟨RX5, vm_m58, rfl, rfl, ⟨vm_r11 _ (List.mem_of_getElem? (i := 0) rfl), vm_r8 _ (List.mem_of_getElem? (i := 20) rfl), vm_r8 _ (List.mem_of_getElem? (i := 21) rfl)⟩, fun _ => by decide +kernel, fun _ => by decide +kernel⟩
theorem vm_l89 : vm_cf 5 92 0 51 400 := ⟨RX5, vm_m51, rfl, rfl, ⟨vm_r11 _ (List.mem_of_getElem? (i := 15) rfl), vm_r11 _ (List.mem_of_getElem? (i := 16) rfl), vm_r11 _ (List.mem_of_getElem? (i := 17) rfl)⟩, fun _ => by decide +kernel, fun _ => by decide +kernel⟩
theorem vm_l90 : vm_cf 6 3 5 0 0 := ⟨RX6, vm_m0, rfl, rfl, vm_r3 _ (List.mem_of_getElem? (i := 6) rfl), fun h => absurd h (by decide), fun h => absurd h (by decide)⟩
theorem vm_l91 : vm_cf 6 9 1 202 2 := ⟨RX6, vm_m202, rfl, rfl, ⟨vm_r3 _ (List.mem_of_getElem? (i := 7) rfl), vm_r3 _ (List.mem_of_getElem? (i := 8) rfl)⟩, fun _ => by decide +kernel, fun h => absurd h (by decide)⟩
theorem vm_l92 : vm_cf 6 25 0 57 500 := ⟨RX6, vm_m57, rfl, rfl, ⟨vm_r13 _ (List.mem_of_getElem? (i := 15) rfl), vm_r9 _ (List.mem_of_getElem? (i := 15) rfl), vm_r9 _ (List.mem_of_getElem? (i := 16) rfl)⟩, fun _ => by decide +kernel, fun _ => by decide +kernel⟩
theorem vm_l93 : vm_cf 6 28 0 55 500 := ⟨RX6, vm_m55, rfl, rfl, ⟨vm_r13 _ (List.mem_of_getElem? (i := 16) rfl), vm_r10 _ (List.mem_of_getElem? (i := 1) rfl), vm_r10 _ (List.mem_of_getElem? (i := 2) rfl)⟩, fun _ => by decide +kernel, fun _ => by decide +kernel⟩
theorem vm_l94 : vm_cf 6 31 0 59 501 := ⟨RX6, vm_m59, rfl, rfl, ⟨vm_r13 _ (List.mem_of_getElem? (i := 17) rfl), vm_r10 _ (List.mem_of_getElem? (i := 13) rfl), vm_r10 _ (List.mem_of_getElem? (i := 14) rfl)⟩, fun _ => by decide +kernel, fun _ => by decide +kernel⟩
theorem vm_l95 : vm_cf 6 35 0 58 501 := ⟨RX6, vm_m58, rfl, rfl, ⟨vm_r13 _ (List.mem_of_getElem? (i := 18) rfl), vm_r8 _ (List.mem_of_getElem? (i := 20) rfl), vm_r8 _ (List.mem_of_getElem? (i := 21) rfl)⟩, fun _ => by decide +kernel, fun _ => by decide +kernel⟩
theorem vm_l96 : vm_cf 7 1 5 0 0 := ⟨RX7, vm_m0, rfl, rfl, vm_r4 _ (List.mem_of_getElem? (i := 9) rfl), fun h => absurd h (by decide), fun h => absurd h (by decide)⟩
theorem vm_l97 : vm_cf 7 7 1 202 2 := ⟨RX7, vm_m202, rfl, rfl, ⟨vm_r4 _ (List.mem_of_getElem? (i := 10) rfl), vm_r3 _ (List.mem_of_getElem? (i := 8) rfl)⟩, fun _ => by decide +kernel, fun h => absurd h (by decide)⟩
theorem vm_l98 : vm_cf 7 21 2 0 1 := ⟨RX7, vm_m0, rfl, rfl, ⟨vm_r4 _ (List.mem_of_getElem? (i := 13) rfl), vm_r3 _ (List.mem_of_getElem? (i := 23) rfl), rfl, rfl⟩, fun _ => by decide +kernel, fun h => absurd h (by decide)⟩
theorem vm_l99 : vm_cf 7 28 0 65 600 := ⟨RX7, vm_m65, rfl, rfl, ⟨vm_r23 _ (List.mem_of_getElem? (i := 8) rfl), vm_r23 _ (List.mem_of_getElem? (i := 9) rfl), vm_r23 _ (List.mem_of_getElem? (i := 10) rfl)⟩, fun _ => by decide +kernel, fun _ => by decide +kernel⟩
theorem vm_l100 : vm_cf 7 35 0 69 601 := ⟨RX7, vm_m69, rfl, rfl, ⟨vm_r23 _ (List.mem_of_getElem? (i := 12) rfl), vm_r23 _ (List.mem_of_getElem? (i := 13) rfl), vm_r23 _ (List.mem_of_getElem? (i := 14) rfl)⟩, fun _ => by decide +kernel, fun _ => by decide +kernel⟩
theorem vm_l101 : vm_cf 7 39 0 2 1 := ⟨RX7, vm_m2, rfl, rfl, ⟨vm_r23 _ (List.mem_of_getElem? (i := 17) rfl), vm_r14 _ (List.mem_of_getElem? (i := 0) rfl), vm_r14 _ (List.mem_of_getElem? (i := 1) rfl)⟩, fun _ => by decide +kernel, fun _ => by decide +kernel⟩
theorem vm_l102 : vm_cf 7 43 1 204 2 := ⟨RX7, vm_m204, rfl, rfl, ⟨vm_r23 _ (List.mem_of_getElem? (i := 16) rfl), vm_r21 _ (List.mem_of_getElem? (i := 5) rfl)⟩, fun _ => by decide +kernel, fun h => absurd h (by decide)⟩
theorem vm_l103 : vm_cf 8 3 5 0 0 := ⟨RX8, vm_m0, rfl, rfl, vm_r3 _ (List.mem_of_getElem? (i := 15) rfl), fun h => absurd h (by decide), fun h => absurd h (by decide)⟩
theorem vm_l104 : vm_cf 8 11 2 54 1 := ⟨RX8, vm_m54, rfl, rfl, ⟨vm_r3 _ (List.mem_of_getElem? (i := 21) rfl), vm_r3 _ (List.mem_of_getElem? (i := 4) rfl), rfl, rfl⟩, fun _ => by decide +kernel, fun h => absurd h (by decide)⟩
theorem vm_l105 : vm_cf 8 33 0 57 500 := ⟨RX8, vm_m57, rfl, rfl, ⟨vm_r9 _ (List.mem_of_getElem? (i := 14) rfl), vm_r9 _ (List.mem_of_getElem? (i := 15) rfl), vm_r9 _ (List.mem_of_getElem? (i := 16) rfl)⟩, fun _ => by decide +kernel, fun _ => by decide +kernel⟩
theorem vm_l106 : vm_cf 8 36 0 62 501 := ⟨RX8, vm_m62, rfl, rfl, ⟨vm_r13 _ (List.mem_of_getElem? (i := 11) rfl), vm_r13 _ (List.mem_of_getElem? (i := 12) rfl), vm_r13 _ (List.mem_of_getElem? (i := 13) rfl)⟩, fun _ => by decide +kernel, fun _ => by decide +kernel⟩
theorem vm_l107 : vm_cf 8 40 0 56 500 := ⟨RX8, vm_m56, rfl, rfl, ⟨vm_r11 _ (List.mem_of_getElem? (i := 5) rfl), vm_r11 _ (List.mem_of_getElem? (i := 6) rfl), vm_r11 _ (List.mem_of_getElem? (i := 7) rfl)⟩, fun _ => by decide +kernel, fun _ => by decide +kernel⟩
theorem vm_l108 : vm_cf 8 44 0 59 501 := ⟨RX8, vm_m59, rfl, rfl, ⟨vm_r11 _ (List.mem_of_getElem? (i := 9) rfl), vm_r10 _ (List.mem_of_getElem? (i := 13) rfl), vm_r10 _ (List.mem_of_getElem? (i := 14) rfl)⟩, fun _ => by decide +kernel, fun _ => by decide +kernel⟩
theorem vm_l109 : vm_cf 8 48 0 58 501 := ⟨RX8, vm_m58, rfl, rfl, ⟨vm_r11 _ (List.mem_of_getElem? (i := 10) rfl), vm_r8 _ (List.mem_of_getElem? (i := 20) rfl), vm_r8 _ (List.mem_of_getElem? (i := 21) rfl)⟩, fun _ => by decide +kernel, fun _ => by decide +kernel⟩
theorem vm_l110 : vm_cf 8 51 3 126 3 := ⟨RX8, vm_m126, rfl, rfl, ⟨⟨"EmberTale", List.mem_of_getElem? (i := 2) rfl⟩, vm_r11 _ (List.mem_of_getElem? (i := 23) rfl)⟩, fun _ => by decide +kernel, fun h => absurd h (by decide)⟩
theorem vm_l111 : vm_cf 8 55 0 55 500 := ⟨RX8, vm_m55, rfl, rfl, ⟨vm_r13 _ (List.mem_of_getElem? (i := 1) rfl), vm_r10 _ (List.mem_of_getElem? (i := 1) rfl), vm_r10 _ (List.mem_of_getElem? (i := 2) rfl)⟩, fun _ => by decide +kernel, fun _ => by decide +kernel⟩
theorem vm_l112 : vm_cf 8 59 0 76 701 := ⟨RX8, vm_m76, rfl, rfl, ⟨vm_r13 _ (List.mem_of_getElem? (i := 2) rfl), vm_r12 _ (List.mem_of_getElem? (i := 8) rfl), vm_r12 _ (List.mem_of_getElem? (i := 9) rfl)⟩, fun _ => by decide +kernel, fun _ => by decide +kernel⟩
theorem vm_l113 : vm_cf 8 63 3 125 1 := ⟨RX8, vm_m125, rfl, rfl, ⟨⟨"EmberTale", List.mem_of_getElem? (i := 4) rfl⟩, vm_r19 _ (List.mem_of_getElem? (i := 18) rfl)⟩, fun _ => by decide +kernel, fun h => absurd h (by decide)⟩
theorem vm_l114 : vm_cf 8 66 0 78 702 := ⟨RX8, vm_m78, rfl, rfl, ⟨vm_r34 _ (List.mem_of_getElem? (i := 12) rfl), vm_r19 _ (List.mem_of_getElem? (i := 21) rfl), vm_r19 _ (List.mem_of_getElem? (i := 22) rfl)⟩, fun _ => by decide +kernel, fun _ => by decide +kernel⟩
theorem vm_l115 : vm_cf 8 70 1 204 2 := ⟨RX8, vm_m204, rfl, rfl, ⟨vm_r21 _ (List.mem_of_getElem? (i := 4) rfl), vm_r21 _ (List.mem_of_getElem? (i := 5) rfl)⟩, fun _ => by decide +kernel, fun h => absurd h (by decide)⟩
theorem vm_l116 : vm_cf 8 75 0 82 701 := ⟨RX8, vm_m82, rfl, rfl, ⟨vm_r34 _ (List.mem_of_getElem? (i := 4) rfl), vm_r34 _ (List.mem_of_getElem? (i := 5) rfl), vm_r34 _ (List.mem_of_getElem? (i := 6) rfl)⟩, fun _ => by decide +kernel, fun _ => by decide +kernel⟩
theorem vm_l117 : vm_cf 8 78 0 79 702 := ⟨RX8, vm_m79, rfl, rfl, ⟨vm_r34 _ (List.mem_of_getElem? (i := 8) rfl), vm_r34 _ (List.mem_of_getElem? (i := 9) rfl), vm_r34 _ (List.mem_of_getElem? (i := 10) rfl)⟩, fun _ => by decide +kernel, fun _ => by decide +kernel⟩
theorem vm_l118 : vm_cf 8 81 0 84 702 := ⟨RX8, vm_m84, rfl, rfl, ⟨vm_r39 _ (List.mem_of_getElem? (i := 19) rfl), vm_r39 _ (List.mem_of_getElem? (i := 20) rfl), vm_r39 _ (List.mem_of_getElem? (i := 21) rfl)⟩, fun _ => by decide +kernel, fun _ => by decide +kernel⟩
theorem vm_l119 : vm_cf 8 85 0 61 501 := ⟨RX8, vm_m61, rfl, rfl, ⟨vm_r40 _ (List.mem_of_getElem? (i := 11) rfl), vm_r31 _ (List.mem_of_getElem? (i := 19) rfl), vm_r31 _ (List.mem_of_getElem? (i := 20) rfl)⟩, fun _ => by decide +kernel, fun _ => by decide +kernel⟩
theorem vm_l120 : vm_cf 8 88 0 60 502 := ⟨RX8, vm_m60, rfl, rfl, ⟨vm_r40 _ (List.mem_of_getElem? (i := 12) rfl), vm_r24 _ (List.mem_of_getElem? (i := 7) rfl), vm_r24 _ (List.mem_of_getElem? (i := 8) rfl)⟩, fun _ => by decide +kernel, fun _ => by decide +kernel⟩
theorem vm_l121 : vm_cf 8 92 0 86 700 := ⟨RX8, vm_m86, rfl, rfl, ⟨vm_r40 _ (List.mem_of_getElem? (i := 13) rfl), vm_r40 _ (List.mem_of_getElem? (i := 14) rfl), vm_r40 _ (List.mem_of_getElem? (i := 15) rfl)⟩, fun _ => by decide +kernel, fun _ => by decide +kernel⟩
theorem vm_l122 : vm_cf 9 3 5 0 0 := ⟨RX9, vm_m0, rfl, rfl, vm_r5 _ (List.mem_of_getElem? (i := 15) rfl), fun h => absurd h (by decide), fun h => absurd h (by decide)⟩
theorem vm_l123 : vm_cf 9 11 2 54 1 := ⟨RX9, vm_m54, rfl, rfl, ⟨vm_r5 _ (List.mem_of_getElem? (i := 20) rfl), vm_r3 _ (List.mem_of_getElem? (i := 4) rfl), rfl, rfl⟩, fun _ => by decide +kernel, fun h => absurd h (by decide)⟩
theorem vm_l124 : vm_cf 9 29 0 7 2 := ⟨RX9, vm_m7, rfl, rfl, ⟨vm_r33 _ (List.mem_of_getElem? (i := 23) rfl), vm_r22 _ (List.mem_of_getElem? (i := 3) rfl), vm_r22 _ (List.mem_of_getElem? (i := 4) rfl)⟩, fun _ => by decide +kernel, fun _ => by decide +kernel⟩
theorem vm_l125 : vm_cf 9 33 0 81 701 := ⟨RX9, vm_m81, rfl, rfl, ⟨vm_r34 _ (List.mem_of_getElem? (i := 0) rfl), vm_r34 _ (List.mem_of_getElem? (i := 1) rfl), vm_r34 _ (List.mem_of_getElem? (i := 2) rfl)⟩, fun _ => by decide +kernel, fun _ => by decide +kernel⟩
theorem vm_l126 : vm_cf 9 43 0 57 500 := ⟨RX9, vm_m57, rfl, rfl, ⟨vm_r34 _ (List.mem_of_getElem? (i := 13) rfl), vm_r9 _ (List.mem_of_getElem? (i := 15) rfl), vm_r9 _ (List.mem_of_getElem? (i := 16) rfl)⟩, fun _ => by decide +kernel, fun _ => by decide +kernel⟩
theorem vm_l127 : vm_cf 9 46 0 58 501 := ⟨RX9, vm_m58, rfl, rfl, ⟨vm_r34 _ (List.mem_of_getElem? (i := 14) rfl), vm_r8 _ (List.mem_of_getElem? (i := 20) rfl), vm_r8 _ (List.mem_of_getElem? (i := 21) rfl)⟩, fun _ => by decide +kernel, fun _ => by decide +kernel⟩
theorem vm_l128 : vm_cf 9 49 0 61 501 := ⟨RX9, vm_m61, rfl, rfl, ⟨vm_r34 _ (List.mem_of_getElem? (i := 15) rfl), vm_r31 _ (List.mem_of_getElem? (i := 19) rfl), vm_r31 _ (List.mem_of_getElem? (i := 20) rfl)⟩, fun _ => by decide +kernel, fun _ => by decide +kernel⟩
theorem vm_l129 : vm_cf 9 55 0 90 803 := ⟨RX9, vm_m90, rfl, rfl, ⟨vm_r34 _ (List.mem_of_getElem? (i := 16) rfl), vm_r34 _ (List.mem_of_getElem? (i := 17) rfl), vm_r34 _ (List.mem_of_getElem? (i := 18) rfl)⟩, fun _ => by decide +kernel, fun _ => by decide +kernel⟩
theorem vm_l130 : vm_cf 9 59 0 59 501 := ⟨RX9, vm_m59, rfl, rfl, ⟨vm_r35 _ (List.mem_of_getElem? (i := 1) rfl), vm_r10 _ (List.mem_of_getElem? (i := 13) rfl), vm_r10 _ (List.mem_of_getElem? (i := 14) rfl)⟩, fun _ => by decide +kernel, fun _ => by decide +kernel⟩
theorem vm_l131 : vm_cf 9 61 0 91 804 := ⟨RX9, vm_m91, rfl, rfl, ⟨vm_r34 _ (List.mem_of_getElem? (i := 20) rfl), vm_r34 _ (List.mem_of_getElem? (i := 21) rfl), vm_r34 _ (List.mem_of_getElem? (i := 22) rfl)⟩, fun _ => by decide +kernel, fun _ => by decide +kernel⟩
theorem vm_l132 : vm_cf 9 65 1 30 2 := ⟨RX9, vm_m30, rfl, rfl, ⟨vm_r35 _ (List.mem_of_getElem? (i := 0) rfl), vm_r24 _ (List.mem_of_getElem? (i := 11) rfl)⟩, fun _ => by decide +kernel, fun h => absurd h (by decide)⟩
theorem vm_l133 : vm_cf 9 70 0 60 502 := ⟨RX9, vm_m60, rfl, rfl, ⟨vm_r35 _ (List.mem_of_getElem? (i := 2) rfl), vm_r24 _ (List.mem_of_getElem? (i := 7) rfl), vm_r24 _ (List.mem_of_getElem? (i := 8) rfl)⟩, fun _ => by decide +kernel, fun _ => by decide +kernel⟩
theorem vm_l134 : vm_cf 9 74 0 79 702 := ⟨RX9, vm_m79, rfl, rfl, ⟨vm_r35 _ (List.mem_of_getElem? (i := 3) rfl), vm_r34 _ (List.mem_of_getElem? (i := 9) rfl), vm_r34 _ (List.mem_of_getElem? (i := 10) rfl)⟩, fun _ => by decide +kernel, fun _ => by decide +kernel⟩
theorem vm_l135 : vm_cf 10 1 5 0 0 := ⟨RX10, vm_m0, rfl, rfl, vm_r1 _ (List.mem_of_getElem? (i := 9) rfl), fun h => absurd h (by decide), fun h => absurd h (by decide)⟩
theorem vm_l136 : vm_cf 10 11 2 54 1 := ⟨RX10, vm_m54, rfl, rfl, ⟨vm_r3 _ (List.mem_of_getElem? (i := 3) rfl), vm_r3 _ (List.mem_of_getElem? (i := 4) rfl), rfl, rfl⟩, fun _ => by decide +kernel, fun h => absurd h (by decide)⟩
theorem vm_l137 : vm_cf 10 23 4 70 0 := ⟨RX10, vm_m70, rfl, rfl, ⟨⟨"EmberTale", List.mem_of_getElem? (i := 0) rfl⟩, vm_r3 _ (List.mem_of_getElem? (i := 13) rfl), rfl, rfl⟩, fun _ => by decide +kernel, fun h => absurd h (by decide)⟩
theorem vm_l138 : vm_cf 10 30 2 0 1 := ⟨RX10, vm_m0, rfl, rfl, ⟨vm_r3 _ (List.mem_of_getElem? (i := 22) rfl), vm_r3 _ (List.mem_of_getElem? (i := 23) rfl), rfl, rfl⟩, fun _ => by decide +kernel, fun h => absurd h (by decide)⟩
theorem vm_l139 : vm_cf 10 42 2 63 2 := ⟨RX10, vm_m63, rfl, rfl, ⟨vm_r4 _ (List.mem_of_getElem? (i := 6) rfl), vm_r4 _ (List.mem_of_getElem? (i := 7) rfl), rfl, rfl⟩, fun _ => by decide +kernel, fun h => absurd h (by decide)⟩
theorem vm_l140 : vm_cf 10 54 2 43 1 := ⟨RX10, vm_m43, rfl, rfl, ⟨vm_r4 _ (List.mem_of_getElem? (i := 14) rfl), vm_r4 _ (List.mem_of_getElem? (i := 15) rfl), rfl, rfl⟩, fun _ => by decide +kernel, fun h => absurd h (by decide)⟩
theorem vm_l141 : vm_cf 10 63 2 33 1 := ⟨RX10, vm_m33, rfl, rfl, ⟨vm_r5 _ (List.mem_of_getElem? (i := 3) rfl), vm_r5 _ (List.mem_of_getElem? (i := 4) rfl), rfl, rfl⟩, fun _ => by decide +kernel, fun h => absurd h (by decide)⟩
theorem vm_l142 : vm_cf 10 70 2 87 1 := ⟨RX10, vm_m87, rfl, rfl, ⟨vm_r5 _ (List.mem_of_getElem? (i := 12) rfl), vm_r5 _ (List.mem_of_getElem? (i := 13) rfl), rfl, rfl⟩, fun _ => by decide +kernel, fun h => absurd h (by decide)⟩
theorem vm_l143 : vm_cf 10 77 2 38 1 := ⟨RX10, vm_m38, rfl, rfl, ⟨vm_r5 _ (List.mem_of_getElem? (i := 21) rfl), vm_r5 _ (List.mem_of_getElem? (i := 22) rfl), rfl, rfl⟩, fun _ => by decide +kernel, fun h => absurd h (by decide)⟩
theorem vm_l144 : vm_cf 10 84 2 25 1 := ⟨RX10, vm_m25, rfl, rfl, ⟨vm_r6 _ (List.mem_of_getElem? (i := 9) rfl), vm_r6 _ (List.mem_of_getElem? (i := 10) rfl), rfl, rfl⟩, fun _ => by decide +kernel, fun h => absurd h (by decide)⟩
theorem vm_l145 : vm_cf 10 91 6 0 0 := ⟨RX10, vm_m0, rfl, rfl, vm_r6 _ (List.mem_of_getElem? (i := 18) rfl), fun h => absurd h (by decide), fun h => absurd h (by decide)⟩
theorem vm_l146 : vm_cf 10 97 7 0 0 := ⟨RX10, vm_m0, rfl, rfl, vm_r7 _ (List.mem_of_getElem? (i := 6) rfl), fun h => absurd h (by decide), fun h => absurd h (by decide)⟩
theorem vm_l147 : vm_cf 10 101 0 58 501 := ⟨RX10, vm_m58, rfl, rfl, ⟨vm_r8 _ (List.mem_of_getElem? (i := 19) rfl), vm_r8 _ (List.mem_of_getElem? (i := 20) rfl), vm_r8 _ (List.mem_of_getElem? (i := 21) rfl)⟩, fun _ => by decide +kernel, fun _ => by decide +kernel⟩
theorem vm_l148 : vm_cf 10 104 0 121 900 := ⟨RX10, vm_m121, rfl, rfl, ⟨vm_r9 _ (List.mem_of_getElem? (i := 0) rfl), vm_r9 _ (List.mem_of_getElem? (i := 1) rfl), vm_r9 _ (List.mem_of_getElem? (i := 2) rfl)⟩, fun _ => by decide +kernel, fun _ => by decide +kernel⟩
theorem vm_l149 : vm_cf 10 108 0 57 500 := ⟨RX10, vm_m57, rfl, rfl, ⟨vm_r14 _ (List.mem_of_getElem? (i := 4) rfl), vm_r9 _ (List.mem_of_getElem? (i := 15) rfl), vm_r9 _ (List.mem_of_getElem? (i := 16) rfl)⟩, fun _ => by decide +kernel, fun _ => by decide +kernel⟩
theorem vm_l150 : vm_cf 10 111 1 126 3 := ⟨RX10, vm_m126, rfl, rfl, ⟨vm_r16 _ (List.mem_of_getElem? (i := 0) rfl), vm_r11 _ (List.mem_of_getElem? (i := 23) rfl)⟩, fun _ => by decide +kernel, fun h => absurd h (by decide)⟩
theorem vm_l151 : vm_cf 10 115 0 56 500 := ⟨RX10, vm_m56, rfl, rfl, ⟨vm_r16 _ (List.mem_of_getElem? (i := 1) rfl), vm_r11 _ (List.mem_of_getElem? (i := 6) rfl), vm_r11 _ (List.mem_of_getElem? (i := 7) rfl)⟩, fun _ => by decide +kernel, fun _ => by decide +kernel⟩
theorem vm_l152 : vm_cf 10 118 0 55 500 := ⟨RX10, vm_m55, rfl, rfl, ⟨vm_r16 _ (List.mem_of_getElem? (i := 2) rfl), vm_r10 _ (List.mem_of_getElem? (i := 1) rfl), vm_r10 _ (List.mem_of_getElem? (i := 2) rfl)⟩, fun _ => by decide +kernel, fun _ => by decide +kernel⟩
theorem vm_l153 : vm_cf 10 121 0 47 400 := ⟨RX10, vm_m47, rfl, rfl, ⟨vm_r9 _ (List.mem_of_getElem? (i := 4) rfl), vm_r9 _ (List.mem_of_getElem? (i := 5) rfl), vm_r9 _ (List.mem_of_getElem? (i := 6) rfl)⟩, fun _ => by decide +kernel, fun _ => by decide +kernel⟩
theorem vm_l154 : vm_cf 10 124 0 4 0 := ⟨RX10, vm_m4, rfl, rfl, ⟨vm_r19 _ (List.mem_of_getElem? (i := 0) rfl), vm_r12 _ (List.mem_of_getElem? (i := 17) rfl), vm_r12 _ (List.mem_of_getElem? (i := 18) rfl)⟩, fun _ => by decide +kernel, fun _ => by decide +kernel⟩
theorem vm_l155 : vm_cf 10 127 0 76 701 := ⟨RX10, vm_m76, rfl, rfl, ⟨vm_r19 _ (List.mem_of_getElem? (i := 16) rfl), vm_r12 _ (List.mem_of_getElem? (i := 8) rfl), vm_r12 _ (List.mem_of_getElem? (i := 9) rfl)⟩, fun _ => by decide +kernel, fun _ => by decide +kernel⟩
theorem vm_l156 : vm_cf 10 131 1 125 1 := ⟨RX10, vm_m125, rfl, rfl, ⟨vm_r19 _ (List.mem_of_getElem? (i := 17) rfl), vm_r19 _ (List.mem_of_getElem? (i := 18) rfl)⟩, fun _ => by decide +kernel, fun h => absurd h (by decide)⟩
theorem vm_l157 : vm_cf 10 134 0 78 702 := ⟨RX10, vm_m78, rfl, rfl, ⟨vm_r19 _ (List.mem_of_getElem? (i := 20) rfl), vm_r19 _ (List.mem_of_getElem? (i := 21) rfl), vm_r19 _ (List.mem_of_getElem? (i := 22) rfl)⟩, fun _ => by decide +kernel, fun _ => by decide +kernel⟩
theorem vm_l158 : vm_cf 10 138 0 5 0 := ⟨RX10, vm_m5, rfl, rfl, ⟨vm_r20 _ (List.mem_of_getElem? (i := 20) rfl), vm_r20 _ (List.mem_of_getElem? (i := 21) rfl), vm_r20 _ (List.mem_of_getElem? (i := 22) rfl)⟩, fun _ => by decide +kernel, fun _ => by decide +kernel⟩
theorem vm_l159 : vm_cf 10 141 0 80 701 := ⟨RX10, vm_m80, rfl, rfl, ⟨vm_r21 _ (List.mem_of_getElem? (i := 0) rfl), vm_r21 _ (List.mem_of_getElem? (i := 1) rfl), vm_r21 _ (List.mem_of_getElem? (i := 2) rfl)⟩, fun _ => by decide +kernel, fun _ => by decide +kernel⟩
theorem vm_l160 : vm_cf 10 145 0 6 1 := ⟨RX10, vm_m6, rfl, rfl, ⟨vm_r21 _ (List.mem_of_getElem? (i := 21) rfl), vm_r21 _ (List.mem_of_getElem? (i := 22) rfl), vm_r21 _ (List.mem_of_getElem? (i := 23) rfl)⟩, fun _ => by decide +kernel, fun _ => by decide +kernel⟩
theorem vm_l161 : vm_cf 10 148 0 7 2 := ⟨RX10, vm_m7, rfl, rfl, ⟨vm_r22 _ (List.mem_of_getElem? (i := 2) rfl), vm_r22 _ (List.mem_of_getElem? (i := 3) rfl), vm_r22 _ (List.mem_of_getElem? (i := 4) rfl)⟩, fun _ => by decide +kernel, fun _ => by decide +kernel⟩
theorem vm_l162 : vm_cf 10 151 0 11 2 := ⟨RX10, vm_m11, rfl, rfl, ⟨vm_r22 _ (List.mem_of_getElem? (i := 18) rfl), vm_r22 _ (List.mem_of_getElem? (i := 19) rfl), vm_r22 _ (List.mem_of_getElem? (i := 20) rfl)⟩, fun _ => by decide +kernel, fun _ => by decide +kernel⟩
theorem vm_l163 : vm_cf 10 155 0 67 601 := ⟨RX10, vm_m67, rfl, rfl, ⟨vm_r23 _ (List.mem_of_getElem? (i := 3) rfl), vm_r23 _ (List.mem_of_getElem? (i := 4) rfl), vm_r23 _ (List.mem_of_getElem? (i := 5) rfl)⟩, fun _ => by decide +kernel, fun _ => by decide +kernel⟩
theorem vm_l164 : vm_cf 10 159 0 12 2 := ⟨RX10, vm_m12, rfl, rfl, ⟨vm_r23 _ (List.mem_of_getElem? (i := 18) rfl), vm_r23 _ (List.mem_of_getElem? (i := 19) rfl), vm_r23 _ (List.mem_of_getElem? (i := 20) rfl)⟩, fun _ => by decide +kernel, fun _ => by decide +kernel⟩
theorem vm_l165 : vm_cf 10 163 0 14 0 := ⟨RX10, vm_m14, rfl, rfl, ⟨vm_r26 _ (List.mem_of_getElem? (i := 3) rfl), vm_r26 _ (List.mem_of_getElem? (i := 4) rfl), vm_r26 _ (List.mem_of_getElem? (i := 5) rfl)⟩, fun _ => by decide +kernel, fun _ => by decide +kernel⟩
theorem vm_l166 : vm_cf 10 166 0 22 0 := ⟨RX10, vm_m22, rfl, rfl, ⟨vm_r26 _ (List.mem_of_getElem? (i := 11) rfl), vm_r26 _ (List.mem_of_getElem? (i := 12) rfl), vm_r26 _ (List.mem_of_getElem? (i := 13) rfl)⟩, fun _ => by decide +kernel, fun _ => by decide +kernel⟩
theorem vm_l167 : vm_cf 10 169 0 123 902 := ⟨RX10, vm_m123, rfl, rfl, ⟨vm_r27 _ (List.mem_of_getElem? (i := 11) rfl), vm_r27 _ (List.mem_of_getElem? (i := 12) rfl), vm_r27 _ (List.mem_of_getElem? (i := 13) rfl)⟩, fun _ => by decide +kernel, fun _ => by decide +kernel⟩
theorem vm_l168 : vm_cf 10 172 0 15 2 := ⟨RX10, vm_m15, rfl, rfl, ⟨vm_r27 _ (List.mem_of_getElem? (i := 15) rfl), vm_r27 _ (List.mem_of_getElem? (i := 16) rfl), vm_r27 _ (List.mem_of_getElem? (i := 17) rfl)⟩, fun _ => by decide +kernel, fun _ => by decide +kernel⟩
theorem vm_l169 : vm_cf 10 175 0 16 2 := ⟨RX10, vm_m16, rfl, rfl, ⟨vm_r27 _ (List.mem_of_getElem? (i := 19) rfl), vm_r27 _ (List.mem_of_getElem? (i := 20) rfl), vm_r27 _ (List.mem_of_getElem? (i := 21) rfl)⟩, fun _ => by decide +kernel, fun _ => by decide +kernel⟩
theorem vm_l170 : vm_cf 10 178 0 10 1 := ⟨RX10, vm_m10, rfl, rfl, ⟨vm_r28 _ (List.mem_of_getElem? (i := 13) rfl), vm_r22 _ (List.mem_of_getElem? (i := 23) rfl), vm_r23 _ (List.mem_of_getElem? (i := 0) rfl)⟩, fun _ => by decide +kernel, fun _ => by decide +kernel⟩
theorem vm_l171 : vm_cf 10 181 0 17 2 := ⟨RX10, vm_m17, rfl, rfl, ⟨vm_r28 _ (List.mem_of_getElem? (i := 14) rfl), vm_r28 _ (List.mem_of_getElem? (i := 15) rfl), vm_r28 _ (List.mem_of_getElem? (i := 16) rfl)⟩, fun _ => by decide +kernel, fun _ => by decide +kernel⟩
theorem vm_l172 : vm_cf 10 184 0 18 3 := ⟨RX10, vm_m18, rfl, rfl, ⟨vm_r29 _ (List.mem_of_getElem? (i := 7) rfl), vm_r29 _ (List.mem_of_getElem? (i := 8) rfl), vm_r29 _ (List.mem_of_getElem? (i := 9) rfl)⟩, fun _ => by decide +kernel, fun _ => by decide +kernel⟩
theorem vm_l173 : vm_cf 10 187 0 19 3 := ⟨RX10, vm_m19, rfl, rfl, ⟨vm_r29 _ (List.mem_of_getElem? (i := 11) rfl), vm_r29 _ (List.mem_of_getElem? (i := 12) rfl), vm_r29 _ (List.mem_of_getElem? (i := 13) rfl)⟩, fun _ => by decide +kernel, fun _ => by decide +kernel⟩
theorem vm_l174 : vm_cf 10 191 0 68 601 := ⟨RX10, vm_m68, rfl, rfl, ⟨vm_r30 _ (List.mem_of_getElem? (i := 3) rfl), vm_r30 _ (List.mem_of_getElem? (i := 4) rfl), vm_r30 _ (List.mem_of_getElem? (i := 5) rfl)⟩, fun _ => by decide +kernel, fun _ => by decide +kernel⟩
theorem vm_l175 : vm_cf 10 195 0 64 600 := ⟨RX10, vm_m64, rfl, rfl, ⟨vm_r30 _ (List.mem_of_getElem? (i := 7) rfl), vm_r30 _ (List.mem_of_getElem? (i := 8) rfl), vm_r30 _ (List.mem_of_getElem? (i := 9) rfl)⟩, fun _ => by decide +kernel, fun _ => by decide +kernel⟩
theorem vm_l176 : vm_cf 10 196 0 20 1 := ⟨RX10, vm_m20, rfl, rfl, ⟨vm_r30 _ (List.mem_of_getElem? (i := 19) rfl), vm_r30 _ (List.mem_of_getElem? (i := 20) rfl), vm_r30 _ (List.mem_of_getElem? (i := 21) rfl)⟩, fun _ => by decide +kernel, fun _ => by decide +kernel⟩
theorem vm_l177 : vm_cf 10 199 0 34 203 := ⟨RX10, vm_m34, rfl, rfl, ⟨vm_r31 _ (List.mem_of_getElem? (i := 7) rfl), vm_r31 _ (List.mem_of_getElem? (i := 8) rfl), vm_r31 _ (List.mem_of_getElem? (i := 9) rfl)⟩, fun _ => by decide +kernel, fun _ => by decide +kernel⟩
theorem vm_l178 : vm_cf 10 203 0 35 201 := ⟨RX10, vm_m35, rfl, rfl, ⟨vm_r32 _ (List.mem_of_getElem? (i := 11) rfl), vm_r32 _ (List.mem_of_getElem? (i := 12) rfl), vm_r32 _ (List.mem_of_getElem? (i := 13) rfl)⟩, fun _ => by decide +kernel, fun _ => by decide +kernel⟩
theorem vm_l179 : vm_cf 10 206 0 88 803 := ⟨RX10, vm_m88, rfl, rfl, ⟨vm_r33 _ (List.mem_of_getElem? (i := 17) rfl), vm_r33 _ (List.mem_of_getElem? (i := 18) rfl), vm_r33 _ (List.mem_of_getElem? (i := 19) rfl)⟩, fun _ => by decide +kernel, fun _ => by decide +kernel⟩
theorem vm_l180 : vm_cf 10 207 0 89 801 := ⟨RX10, vm_m89, rfl, rfl, ⟨vm_r35 _ (List.mem_of_getElem? (i := 4) rfl), vm_r35 _ (List.mem_of_getElem? (i := 5) rfl), vm_r35 _ (List.mem_of_getElem? (i := 6) rfl)⟩, fun _ => by decide +kernel, fun _ => by decide +kernel⟩
theorem vm_l181 : vm_cf 10 210 0 39 302 := ⟨RX10, vm_m39, rfl, rfl, ⟨vm_r36 _ (List.mem_of_getElem? (i := 4) rfl), vm_r36 _ (List.mem_of_getElem? (i := 5) rfl), vm_r36 _ (List.mem_of_getElem? (i := 6) rfl)⟩, fun _ => by decide +kernel, fun _ => by decide +kernel⟩
theorem vm_l182 : vm_cf 10 213 0 40 301 := ⟨RX10, vm_m40, rfl, rfl, ⟨vm_r36 _ (List.mem_of_getElem? (i := 23) rfl), vm_r37 _ (List.mem_of_getElem? (i := 0) rfl), vm_r37 _ (List.mem_of_getElem? (i := 1) rfl)⟩, fun _ => by decide +kernel, fun _ => by decide +kernel⟩
theorem vm_l183 : vm_cf 10 214 0 81 701 := ⟨RX10, vm_m81, rfl, rfl, ⟨vm_r37 _ (List.mem_of_getElem? (i := 19) rfl), vm_r34 _ (List.mem_of_getElem? (i := 1) rfl), vm_r34 _ (List.mem_of_getElem? (i := 2) rfl)⟩, fun _ => by decide +kernel, fun _ => by decide +kernel⟩
theorem vm_l184 : vm_cf 10 217 0 122 904 := ⟨RX10, vm_m122, rfl, rfl, ⟨vm_r38 _ (List.mem_of_getElem? (i := 7) rfl), vm_r38 _ (List.mem_of_getElem? (i := 8) rfl), vm_r38 _ (List.mem_of_getElem? (i := 9) rfl)⟩, fun _ => by decide +kernel, fun _ => by decide +kernel⟩
theorem vm_l185 : vm_cf 10 221 0 83 702 := ⟨RX10, vm_m83, rfl, rfl, ⟨vm_r39 _ (List.mem_of_getElem? (i := 15) rfl), vm_r39 _ (List.mem_of_getElem? (i := 16) rfl), vm_r39 _ (List.mem_of_getElem? (i := 17) rfl)⟩, fun _ => by decide +kernel, fun _ => by decide +kernel⟩
theorem vm_l186 : vm_cf 10 225 0 85 703 := ⟨RX10, vm_m85, rfl, rfl, ⟨vm_r40 _ (List.mem_of_getElem? (i := 7) rfl), vm_r40 _ (List.mem_of_getElem? (i := 8) rfl), vm_r40 _ (List.mem_of_getElem? (i := 9) rfl)⟩, fun _ => by decide +kernel, fun _ => by decide +kernel⟩
theorem vm_l187 : vm_cf 10 229 0 26 105 := ⟨RX10, vm_m26, rfl, rfl, ⟨vm_r41 _ (List.mem_of_getElem? (i := 2) rfl), vm_r41 _ (List.mem_of_getElem? (i := 3) rfl), vm_r41 _ (List.mem_of_getElem? (i := 4) rfl)⟩, fun _ => by decide +kernel, fun _ => by decide +kernel⟩
theorem vm_l188 : vm_cf 10 233 0 2 1 := ⟨RX10, vm_m2, rfl, rfl, ⟨vm_r13 _ (List.mem_of_getElem? (i := 23) rfl), vm_r14 _ (List.mem_of_getElem? (i := 0) rfl), vm_r14 _ (List.mem_of_getElem? (i := 1) rfl)⟩, fun _ => by decide +kernel, fun _ => by decide +kernel⟩
theorem vm_l189 : vm_cf 10 236 1 124 2 := ⟨RX10, vm_m124, rfl, rfl, ⟨vm_r42 _ (List.mem_of_getElem? (i := 13) rfl), vm_r42 _ (List.mem_of_getElem? (i := 14) rfl)⟩, fun _ => by decide +kernel, fun h => absurd h (by decide)⟩
theorem vm_l190 : vm_cf 10 239 0 21 1 := ⟨RX10, vm_m21, rfl, rfl, ⟨vm_r42 _ (List.mem_of_getElem? (i := 19) rfl), vm_r42 _ (List.mem_of_getElem? (i := 20) rfl), vm_r42 _ (List.mem_of_getElem? (i := 21) rfl)⟩, fun _ => by decide +kernel, fun _ => by decide +kernel⟩
theorem vm_l191 : vm_cf 10 242 0 24 0 := ⟨RX10, vm_m24, rfl, rfl, ⟨vm_r43 _ (List.mem_of_getElem? (i := 4) rfl), vm_r43 _ (List.mem_of_getElem? (i := 5) rfl), vm_r43 _ (List.mem_of_getElem? (i := 6) rfl)⟩, fun _ => by decide +kernel, fun _ => by decide +kernel⟩
theorem vm_l192 : vm_cf 10 245 0 65 600 := ⟨RX10, vm_m65, rfl, rfl, ⟨vm_r44 _ (List.mem_of_getElem? (i := 0) rfl), vm_r23 _ (List.mem_of_getElem? (i := 9) rfl), vm_r23 _ (List.mem_of_getElem? (i := 10) rfl)⟩, fun _ => by decide +kernel, fun _ => by decide +kernel⟩
theorem vm_l193 : vm_cf 10 246 0 66 600 := ⟨RX10, vm_m66, rfl, rfl, ⟨vm_r14 _ (List.mem_of_getElem? (i := 5) rfl), vm_r14 _ (List.mem_of_getElem? (i := 6) rfl), vm_r14 _ (List.mem_of_getElem? (i := 7) rfl)⟩, fun _ => by decide +kernel, fun _ => by decide +kernel⟩
theorem vm_l194 : vm_cf 10 247 0 75 700 := ⟨RX10, vm_m75, rfl, rfl, ⟨vm_r44 _ (List.mem_of_getElem? (i := 17) rfl), vm_r44 _ (List.mem_of_getElem? (i := 18) rfl), vm_r44 _ (List.mem_of_getElem? (i := 19) rfl)⟩, fun _ => by decide +kernel, fun _ => by decide +kernel⟩
theorem vm_l195 : vm_cf 10 250 0 23 0 := ⟨RX10, vm_m23, rfl, rfl, ⟨vm_r44 _ (List.mem_of_getElem? (i := 21) rfl), vm_r44 _ (List.mem_of_getElem? (i := 22) rfl), vm_r44 _ (List.mem_of_getElem? (i := 23) rfl)⟩, fun _ => by decide +kernel, fun _ => by decide +kernel⟩
theorem vm_l196 : vm_cf 10 253 0 46 400 := ⟨RX10, vm_m46, rfl, rfl, ⟨vm_r12 _ (List.mem_of_getElem? (i := 12) rfl), vm_r12 _ (List.mem_of_getElem? (i := 13) rfl), vm_r12 _ (List.mem_of_getElem? (i := 14) rfl)⟩, fun _ => by decide +kernel, fun _ => by decide +kernel⟩
theorem vm_l197 : vm_cf 10 256 0 44 400 := ⟨RX10, vm_m44, rfl, rfl, ⟨vm_r13 _ (List.mem_of_getElem? (i := 3) rfl), vm_r13 _ (List.mem_of_getElem? (i := 4) rfl), vm_r13 _ (List.mem_of_getElem? (i := 5) rfl)⟩, fun _ => by decide +kernel, fun _ => by decide +kernel⟩
theorem vm_l198 : vm_cf 10 259 0 72 701 := ⟨RX10, vm_m72, rfl, rfl, ⟨vm_r13 _ (List.mem_of_getElem? (i := 7) rfl), vm_r13 _ (List.mem_of_getElem? (i := 8) rfl), vm_r13 _ (List.mem_of_getElem? (i := 9) rfl)⟩, fun _ => by decide +kernel, fun _ => by decide +kernel⟩
theorem vm_l199 : vm_cf 10 261 0 45 400 := ⟨RX10, vm_m45, rfl, rfl, ⟨vm_r13 _ (List.mem_of_getElem? (i := 19) rfl), vm_r13 _ (List.mem_of_getElem? (i := 20) rfl), vm_r13 _ (List.mem_of_getElem? (i := 21) rfl)⟩, fun _ => by decide +kernel, fun _ => by decide +kernel⟩
theorem vm_l200 : vm_cf 11 1 5 0 0 := ⟨RX11, vm_m0, rfl, rfl, vm_r14 _ (List.mem_of_getElem? (i := 13) rfl), fun h => absurd h (by decide), fun h => absurd h (by decide)⟩
theorem vm_l201 : vm_cf 11 61 1 131 2 := ⟨RX11, vm_m131, rfl, rfl, ⟨vm_r15 _ (List.mem_of_getElem? (i := 7) rfl), vm_r15 _ (List.mem_of_getElem? (i := 8) rfl)⟩, fun _ => by decide +kernel, fun h => absurd h (by decide)⟩
theorem vm_l202 : vm_cf 11 65 1 132 4 := ⟨RX11, vm_m132, rfl, rfl, ⟨vm_r15 _ (List.mem_of_getElem? (i := 10) rfl), vm_r15 _ (List.mem_of_getElem? (i := 11) rfl)⟩, fun _ => by decide +kernel, fun h => absurd h (by decide)⟩
theorem vm_l203 : vm_cf 11 69 0 133 1000 := ⟨RX11, vm_m133, rfl, rfl, ⟨vm_r15 _ (List.mem_of_getElem? (i := 13) rfl), vm_r15 _ (List.mem_of_getElem? (i := 14) rfl), vm_r15 _ (List.mem_of_getElem? (i := 15) rfl)⟩, fun _ => by decide +kernel, fun _ => by decide +kernel⟩
theorem vm_l204 : vm_cf 11 86 1 128 3 := ⟨RX11, vm_m128, rfl, rfl, ⟨vm_r16 _ (List.mem_of_getElem? (i := 10) rfl), vm_r16 _ (List.mem_of_getElem? (i := 11) rfl)⟩, fun _ => by decide +kernel, fun h => absurd h (by decide)⟩
theorem vm_l205 : vm_cf 11 96 0 136 1000 := ⟨RX11, vm_m136, rfl, rfl, ⟨vm_r17 _ (List.mem_of_getElem? (i := 14) rfl), vm_r17 _ (List.mem_of_getElem? (i := 15) rfl), vm_r17 _ (List.mem_of_getElem? (i := 16) rfl)⟩, fun _ => by decide +kernel, fun _ => by decide +kernel⟩
theorem vm_l206 : vm_cf 11 104 1 138 1 := ⟨RX11, vm_m138, rfl, rfl, ⟨vm_r17 _ (List.mem_of_getElem? (i := 22) rfl), vm_r17 _ (List.mem_of_getElem? (i := 23) rfl)⟩, fun _ => by decide +kernel, fun h => absurd h (by decide)⟩
theorem vm_l207 : vm_cf 11 111 0 139 1002 := ⟨RX11, vm_m139, rfl, rfl, ⟨vm_r18 _ (List.mem_of_getElem? (i := 8) rfl), vm_r18 _ (List.mem_of_getElem? (i := 9) rfl), vm_r18 _ (List.mem_of_getElem? (i := 10) rfl)⟩, fun _ => by decide +kernel, fun _ => by decide +kernel⟩
theorem vm_l208 : vm_cf 11 115 0 137 1001 := ⟨RX11, vm_m137, rfl, rfl, ⟨vm_r18 _ (List.mem_of_getElem? (i := 16) rfl), vm_r18 _ (List.mem_of_getElem? (i := 17) rfl), vm_r18 _ (List.mem_of_getElem? (i := 18) rfl)⟩, fun _ => by decide +kernel, fun _ => by decide +kernel⟩
theorem vm_l209 : vm_cf 11 118 0 140 1000 := ⟨RX11, vm_m140, rfl, rfl, ⟨vm_r17 _ (List.mem_of_getElem? (i := 18) rfl), vm_r17 _ (List.mem_of_getElem? (i := 19) rfl), vm_r17 _ (List.mem_of_getElem? (i := 20) rfl)⟩, fun _ => by decide +kernel, fun _ => by decide +kernel⟩
theorem vm_l210 : vm_cf 11 122 0 141 1000 := ⟨RX11, vm_m141, rfl, rfl, ⟨vm_r18 _ (List.mem_of_getElem? (i := 3) rfl), vm_r18 _ (List.mem_of_getElem? (i := 4) rfl), vm_r18 _ (List.mem_of_getElem? (i := 5) rfl)⟩, fun _ => by decide +kernel, fun _ => by decide +kernel⟩
theorem vm_l211 : vm_cf 11 125 0 142 1000 := ⟨RX11, vm_m142, rfl, rfl, ⟨vm_r18 _ (List.mem_of_getElem? (i := 12) rfl), vm_r18 _ (List.mem_of_getElem? (i := 13) rfl), vm_r18 _ (List.mem_of_getElem? (i := 14) rfl)⟩, fun _ => by decide +kernel, fun _ => by decide +kernel⟩
theorem vm_l212 : vm_cf 11 128 0 143 1000 := ⟨RX11, vm_m143, rfl, rfl, ⟨vm_r17 _ (List.mem_of_getElem? (i := 10) rfl), vm_r17 _ (List.mem_of_getElem? (i := 11) rfl), vm_r17 _ (List.mem_of_getElem? (i := 12) rfl)⟩, fun _ => by decide +kernel, fun _ => by decide +kernel⟩
theorem vm_l213 : vm_cf 11 131 0 144 1000 := ⟨RX11, vm_m144, rfl, rfl, ⟨vm_r17 _ (List.mem_of_getElem? (i := 5) rfl), vm_r17 _ (List.mem_of_getElem? (i := 6) rfl), vm_r17 _ (List.mem_of_getElem? (i := 7) rfl)⟩, fun _ => by decide +kernel, fun _ => by decide +kernel⟩
theorem vm_l214 : vm_cf 11 134 0 146 1000 := ⟨RX11, vm_m146, rfl, rfl, ⟨vm_r19 _ (List.mem_of_getElem? (i := 5) rfl), vm_r19 _ (List.mem_of_getElem? (i := 6) rfl), vm_r19 _ (List.mem_of_getElem? (i := 7) rfl)⟩, fun _ => by decide +kernel, fun _ => by decide +kernel⟩
theorem vm_l215 : vm_cf 11 137 1 130 5 := ⟨RX11, vm_m130, rfl, rfl, ⟨vm_r19 _ (List.mem_of_getElem? (i := 9) rfl), vm_r19 _ (List.mem_of_getElem? (i := 10) rfl)⟩, fun _ => by decide +kernel, fun h => absurd h (by decide)⟩
theorem vm_l216 : vm_cf 11 143 0 151 1002 := ⟨RX11, vm_m151, rfl, rfl, ⟨vm_r20 _ (List.mem_of_getElem? (i := 12) rfl), vm_r20 _ (List.mem_of_getElem? (i := 13) rfl), vm_r20 _ (List.mem_of_getElem? (i := 14) rfl)⟩, fun _ => by decide +kernel, fun _ => by decide +kernel⟩
theorem vm_l217 : vm_cf 11 147 0 148 1001 := ⟨RX11, vm_m148, rfl, rfl, ⟨vm_r20 _ (List.mem_of_getElem? (i := 4) rfl), vm_r20 _ (List.mem_of_getElem? (i := 5) rfl), vm_r20 _ (List.mem_of_getElem? (i := 6) rfl)⟩, fun _ => by decide +kernel, fun _ => by decide +kernel⟩
theorem vm_l218 : vm_cf 11 150 1 149 1 := ⟨RX11, vm_m149, rfl, rfl, ⟨vm_r20 _ (List.mem_of_getElem? (i := 8) rfl), vm_r20 _ (List.mem_of_getElem? (i := 9) rfl)⟩, fun _ => by decide +kernel, fun h => absurd h (by decide)⟩
theorem vm_l219 : vm_cf 11 155 0 153 1001 := ⟨RX11, vm_m153, rfl, rfl, ⟨vm_r21 _ (List.mem_of_getElem? (i := 13) rfl), vm_r21 _ (List.mem_of_getElem? (i := 14) rfl), vm_r21 _ (List.mem_of_getElem? (i := 15) rfl)⟩, fun _ => by decide +kernel, fun _ => by decide +kernel⟩
theorem vm_l220 : vm_cf 11 159 0 150 1001 := ⟨RX11, vm_m150, rfl, rfl, ⟨vm_r22 _ (List.mem_of_getElem? (i := 10) rfl), vm_r22 _ (List.mem_of_getElem? (i := 11) rfl), vm_r22 _ (List.mem_of_getElem? (i := 12) rfl)⟩, fun _ => by decide +kernel, fun _ => by decide +kernel⟩
theorem vm_l221 : vm_cf 11 162 1 157 2 := ⟨RX11, vm_m157, rfl, rfl, ⟨vm_r25 _ (List.mem_of_getElem? (i := 17) rfl), vm_r25 _ (List.mem_of_getElem? (i := 18) rfl)⟩, fun _ => by decide +kernel, fun h => absurd h (by decide)⟩
theorem vm_l222 : vm_cf 11 165 1 160 2 := ⟨RX11, vm_m160, rfl, rfl, ⟨vm_r25 _ (List.mem_of_getElem? (i := 20) rfl), vm_r25 _ (List.mem_of_getElem? (i := 21) rfl)⟩, fun _ => by decide +kernel, fun h => absurd h (by decide)⟩
theorem vm_l223 : vm_cf 11 168 1 158 3 := ⟨RX11, vm_m158, rfl, rfl, ⟨vm_r27 _ (List.mem_of_getElem? (i := 0) rfl), vm_r27 _ (List.mem_of_getElem? (i := 1) rfl)⟩, fun _ => by decide +kernel, fun h => absurd h (by decide)⟩
theorem vm_l224 : vm_cf 11 172 1 161 3 := ⟨RX11, vm_m161, rfl, rfl, ⟨vm_r25 _ (List.mem_of_getElem? (i := 6) rfl), vm_r25 _ (List.mem_of_getElem? (i := 7) rfl)⟩, fun _ => by decide +kernel, fun h => absurd h (by decide)⟩
theorem vm_l225 : vm_cf 11 176 0 165 1000 := ⟨RX11, vm_m165, rfl, rfl, ⟨vm_r25 _ (List.mem_of_getElem? (i := 9) rfl), vm_r25 _ (List.mem_of_getElem? (i := 10) rfl), vm_r25 _ (List.mem_of_getElem? (i := 11) rfl)⟩, fun _ => by decide +kernel, fun _ => by decide +kernel⟩
theorem vm_l226 : vm_cf 11 179 0 162 1003 := ⟨RX11, vm_m162, rfl, rfl, ⟨vm_r25 _ (List.mem_of_getElem? (i := 13) rfl), vm_r25 _ (List.mem_of_getElem? (i := 14) rfl), vm_r25 _ (List.mem_of_getElem? (i := 15) rfl)⟩, fun _ => by decide +kernel, fun _ => by decide +kernel⟩
theorem vm_l227 : vm_cf 11 185 0 163 1001 := ⟨RX11, vm_m163, rfl, rfl, ⟨vm_r26 _ (List.mem_of_getElem? (i := 20) rfl), vm_r26 _ (List.mem_of_getElem? (i := 21) rfl), vm_r26 _ (List.mem_of_getElem? (i := 22) rfl)⟩, fun _ => by decide +kernel, fun _ => by decide +kernel⟩
theorem vm_l228 : vm_cf 11 189 0 164 1001 := ⟨RX11, vm_m164, rfl, rfl, ⟨vm_r27 _ (List.mem_of_getElem? (i := 3) rfl), vm_r27 _ (List.mem_of_getElem? (i := 4) rfl), vm_r27 _ (List.mem_of_getElem? (i := 5) rfl)⟩, fun _ => by decide +kernel, fun _ => by decide +kernel⟩
theorem vm_l229 : vm_cf 11 193 1 168 3 := ⟨RX11, vm_m168, rfl, rfl, ⟨vm_r28 _ (List.mem_of_getElem? (i := 3) rfl), vm_r28 _ (List.mem_of_getElem? (i := 4) rfl)⟩, fun _ => by decide +kernel, fun h => absurd h (by decide)⟩
theorem vm_l230 : vm_cf 11 196 1 169 3 := ⟨RX11, vm_m169, rfl, rfl, ⟨vm_r28 _ (List.mem_of_getElem? (i := 6) rfl), vm_r28 _ (List.mem_of_getElem? (i := 7) rfl)⟩, fun _ => by decide +kernel, fun h => absurd h (by decide)⟩
theorem vm_l231 : vm_cf 11 199 0 159 1001 := ⟨RX11, vm_m159, rfl, rfl, ⟨vm_r28 _ (List.mem_of_getElem? (i := 23) rfl), vm_r29 _ (List.mem_of_getElem? (i := 0) rfl), vm_r29 _ (List.mem_of_getElem? (i := 1) rfl)⟩, fun _ => by decide +kernel, fun _ => by decide +kernel⟩
theorem vm_l232 : vm_cf 11 202 0 172 1003 := ⟨RX11, vm_m172, rfl, rfl, ⟨vm_r29 _ (List.mem_of_getElem? (i := 19) rfl), vm_r29 _ (List.mem_of_getElem? (i := 20) rfl), vm_r29 _ (List.mem_of_getElem? (i := 21) rfl)⟩, fun _ => by decide +kernel, fun _ => by decide +kernel⟩
theorem vm_l233 : vm_cf 11 206 0 178 1001 := ⟨RX11, vm_m178, rfl, rfl, ⟨vm_r33 _ (List.mem_of_getElem? (i := 9) rfl), vm_r33 _ (List.mem_of_getElem? (i := 10) rfl), vm_r33 _ (List.mem_of_getElem? (i := 11) rfl)⟩, fun _ => by decide +kernel, fun _ => by decide +kernel⟩
theorem vm_l234 : vm_cf 11 210 0 177 1003 := ⟨RX11, vm_m177, rfl, rfl, ⟨vm_r33 _ (List.mem_of_getElem? (i := 5) rfl), vm_r33 _ (List.mem_of_getElem? (i := 6) rfl), vm_r33 _ (List.mem_of_getElem? (i := 7) rfl)⟩, fun _ => by decide +kernel, fun _ => by decide +kernel⟩
theorem vm_l235 : vm_cf 11 215 0 176 1001 := ⟨RX11, vm_m176, rfl, rfl, ⟨vm_r32 _ (List.mem_of_getElem? (i := 21) rfl), vm_r32 _ (List.mem_of_getElem? (i := 22) rfl), vm_r32 _ (List.mem_of_getElem? (i := 23) rfl)⟩, fun _ => by decide +kernel, fun _ => by decide +kernel⟩
theorem vm_l236 : vm_cf 11 219 0 179 1002 := ⟨RX11, vm_m179, rfl, rfl, ⟨vm_r33 _ (List.mem_of_getElem? (i := 1) rfl), vm_r33 _ (List.mem_of_getElem? (i := 2) rfl), vm_r33 _ (List.mem_of_getElem? (i := 3) rfl)⟩, fun _ => by decide +kernel, fun _ => by decide +kernel⟩
theorem vm_l237 : vm_cf 11 222 0 152 1002 := ⟨RX11, vm_m152, rfl, rfl, ⟨vm_r35 _ (List.mem_of_getElem? (i := 20) rfl), vm_r35 _ (List.mem_of_getElem? (i := 21) rfl), vm_r35 _ (List.mem_of_getElem? (i := 22) rfl)⟩, fun _ => by decide +kernel, fun _ => by decide +kernel⟩
theorem vm_l238 : vm_cf 11 225 0 181 1003 := ⟨RX11, vm_m181, rfl, rfl, ⟨vm_r35 _ (List.mem_of_getElem? (i := 16) rfl), vm_r35 _ (List.mem_of_getElem? (i := 17) rfl), vm_r35 _ (List.mem_of_getElem? (i := 18) rfl)⟩, fun _ => by decide +kernel, fun _ => by decide +kernel⟩
theorem vm_l239 : vm_cf 11 228 0 182 1002 := ⟨RX11, vm_m182, rfl, rfl, ⟨vm_r35 _ (List.mem_of_getElem? (i := 12) rfl), vm_r35 _ (List.mem_of_getElem? (i := 13) rfl), vm_r35 _ (List.mem_of_getElem? (i := 14) rfl)⟩, fun _ => by decide +kernel, fun _ => by decide +kernel⟩
theorem vm_l240 : vm_cf 11 231 0 185 1001 := ⟨RX11, vm_m185, rfl, rfl, ⟨vm_r37 _ (List.mem_of_getElem? (i := 11) rfl), vm_r37 _ (List.mem_of_getElem? (i := 12) rfl), vm_r37 _ (List.mem_of_getElem? (i := 13) rfl)⟩, fun _ => by decide +kernel, fun _ => by decide +kernel⟩
theorem vm_l241 : vm_cf 11 234 0 184 1002 := ⟨RX11, vm_m184, rfl, rfl, ⟨vm_r37 _ (List.mem_of_getElem? (i := 7) rfl), vm_r37 _ (List.mem_of_getElem? (i := 8) rfl), vm_r37 _ (List.mem_of_getElem? (i := 9) rfl)⟩, fun _ => by decide +kernel, fun _ => by decide +kernel⟩
theorem vm_l242 : vm_cf 11 237 1 129 2 := ⟨RX11, vm_m129, rfl, rfl, ⟨vm_r38 _ (List.mem_of_getElem? (i := 0) rfl), vm_r38 _ (List.mem_of_getElem? (i := 1) rfl)⟩, fun _ => by decide +kernel, fun h => absurd h (by decide)⟩
theorem vm_l243 : vm_cf 11 240 0 188 1004 := ⟨RX11, vm_m188, rfl, rfl, ⟨vm_r38 _ (List.mem_of_getElem? (i := 15) rfl), vm_r38 _ (List.mem_of_getElem? (i := 16) rfl), vm_r38 _ (List.mem_of_getElem? (i := 17) rfl)⟩, fun _ => by decide +kernel, fun _ => by decide +kernel⟩
theorem vm_l244 : vm_cf 11 248 1 194 3 := ⟨RX11, vm_m194, rfl, rfl, ⟨vm_r42 _ (List.mem_of_getElem? (i := 6) rfl), vm_r42 _ (List.mem_of_getElem? (i := 7) rfl)⟩, fun _ => by decide +kernel, fun h => absurd h (by decide)⟩
theorem vm_l245 : vm_cf 11 262 1 196 1 := ⟨RX11, vm_m196, rfl, rfl, ⟨vm_r43 _ (List.mem_of_getElem? (i := 17) rfl), vm_r43 _ (List.mem_of_getElem? (i := 18) rfl)⟩, fun _ => by decide +kernel, fun h => absurd h (by decide)⟩
theorem vm_l246 : vm_cf 11 265 0 200 1000 := ⟨RX11, vm_m200, rfl, rfl, ⟨vm_r45 _ (List.mem_of_getElem? (i := 5) rfl), vm_r45 _ (List.mem_of_getElem? (i := 6) rfl), vm_r45 _ (List.mem_of_getElem? (i := 7) rfl)⟩, fun _ => by decide +kernel, fun _ => by decide +kernel⟩
theorem vm_l247 : vm_cf 12 9 2 92 0 := ⟨RL, vm_m92, rfl, rfl, ⟨vm_r1 _ (List.mem_of_getElem? (i := 6) rfl), vm_r1 _ (List.mem_of_getElem? (i := 7) rfl), rfl, rfl⟩, fun _ => by decide +kernel, fun h => absurd h (by decide)⟩
theorem vm_l248 : vm_cf 12 12 2 127 0 := ⟨RL, vm_m127, rfl, rfl, ⟨vm_r14 _ (List.mem_of_getElem? (i := 10) rfl), vm_r14 _ (List.mem_of_getElem? (i := 11) rfl), rfl, rfl⟩, fun _ => by decide +kernel, fun h => absurd h (by decide)⟩
theorem vm_l249 : vm_cf 12 13 0 93 901 := ⟨RL, vm_m93, rfl, rfl, ⟨vm_r15 _ (List.mem_of_getElem? (i := 20) rfl), vm_r15 _ (List.mem_of_getElem? (i := 21) rfl), vm_r15 _ (List.mem_of_getElem? (i := 22) rfl)⟩, fun _ => by decide +kernel, fun _ => by decide +kernel⟩
theorem vm_l250 : vm_cf 12 17 0 134 1001 := ⟨RL, vm_m134, rfl, rfl, ⟨vm_r16 _ (List.mem_of_getElem? (i := 3) rfl), vm_r16 _ (List.mem_of_getElem? (i := 4) rfl), vm_r16 _ (List.mem_of_getElem? (i := 5) rfl)⟩, fun _ => by decide +kernel, fun _ => by decide +kernel⟩
theorem vm_l251 : vm_cf 12 18 0 94 900 := ⟨RL, vm_m94, rfl, rfl, ⟨vm_r16 _ (List.mem_of_getElem? (i := 13) rfl), vm_r16 _ (List.mem_of_getElem? (i := 14) rfl), vm_r16 _ (List.mem_of_getElem? (i := 15) rfl)⟩, fun _ => by decide +kernel, fun _ => by decide +kernel⟩
theorem vm_l252 : vm_cf 12 22 0 135 1000 := ⟨RL, vm_m135, rfl, rfl, ⟨vm_r16 _ (List.mem_of_getElem? (i := 17) rfl), vm_r16 _ (List.mem_of_getElem? (i := 18) rfl), vm_r16 _ (List.mem_of_getElem? (i := 19) rfl)⟩, fun _ => by decide +kernel, fun _ => by decide +kernel⟩
theorem vm_l253 : vm_cf 12 23 0 95 900 := ⟨RL, vm_m95, rfl, rfl, ⟨vm_r16 _ (List.mem_of_getElem? (i := 21) rfl), vm_r16 _ (List.mem_of_getElem? (i := 22) rfl), vm_r16 _ (List.mem_of_getElem? (i := 23) rfl)⟩, fun _ => by decide +kernel, fun _ => by decide +kernel⟩
theorem vm_l254 : vm_cf 12 26 0 145 1000 := ⟨RL, vm_m145, rfl, rfl, ⟨vm_r17 _ (List.mem_of_getElem? (i := 1) rfl), vm_r17 _ (List.mem_of_getElem? (i := 2) rfl), vm_r17 _ (List.mem_of_getElem? (i := 3) rfl)⟩, fun _ => by decide +kernel, fun _ => by decide +kernel⟩
theorem vm_l255 : vm_cf 12 27 0 96 900 := ⟨RL, vm_m96, rfl, rfl, ⟨vm_r18 _ (List.mem_of_getElem? (i := 20) rfl), vm_r18 _ (List.mem_of_getElem? (i := 21) rfl), vm_r18 _ (List.mem_of_getElem? (i := 22) rfl)⟩, fun _ => by decide +kernel, fun _ => by decide +kernel⟩
theorem vm_l256 : vm_cf 12 30 0 147 1000 := ⟨RL, vm_m147, rfl, rfl, ⟨vm_r19 _ (List.mem_of_getElem? (i := 1) rfl), vm_r19 _ (List.mem_of_getElem? (i := 2) rfl), vm_r19 _ (List.mem_of_getElem? (i := 3) rfl)⟩, fun _ => by decide +kernel, fun _ => by decide +kernel⟩
theorem vm_l257 : vm_cf 12 31 0 97 902 := ⟨RL, vm_m97, rfl, rfl, ⟨vm_r19 _ (List.mem_of_getElem? (i := 12) rfl), vm_r19 _ (List.mem_of_getElem? (i := 13) rfl), vm_r19 _ (List.mem_of_getElem? (i := 14) rfl)⟩, fun _ => by decide +kernel, fun _ => by decide +kernel⟩
theorem vm_l258 : vm_cf 12 35 0 154 1002 := ⟨RL, vm_m154, rfl, rfl, ⟨vm_r20 _ (List.mem_of_getElem? (i := 0) rfl), vm_r20 _ (List.mem_of_getElem? (i := 1) rfl), vm_r20 _ (List.mem_of_getElem? (i := 2) rfl)⟩, fun _ => by decide +kernel, fun _ => by decide +kernel⟩
theorem vm_l259 : vm_cf 12 36 0 98 901 := ⟨RL, vm_m98, rfl, rfl, ⟨vm_r20 _ (List.mem_of_getElem? (i := 16) rfl), vm_r20 _ (List.mem_of_getElem? (i := 17) rfl), vm_r20 _ (List.mem_of_getElem? (i := 18) rfl)⟩, fun _ => by decide +kernel, fun _ => by decide +kernel⟩
theorem vm_l260 : vm_cf 12 39 0 155 1001 := ⟨RL, vm_m155, rfl, rfl, ⟨vm_r21 _ (List.mem_of_getElem? (i := 8) rfl), vm_r21 _ (List.mem_of_getElem? (i := 9) rfl), vm_r21 _ (List.mem_of_getElem? (i := 10) rfl)⟩, fun _ => by decide +kernel, fun _ => by decide +kernel⟩
theorem vm_l261 : vm_cf 12 40 0 99 902 := ⟨RL, vm_m99, rfl, rfl, ⟨vm_r21 _ (List.mem_of_getElem? (i := 17) rfl), vm_r21 _ (List.mem_of_getElem? (i := 18) rfl), vm_r21 _ (List.mem_of_getElem? (i := 19) rfl)⟩, fun _ => by decide +kernel, fun _ => by decide +kernel⟩
theorem vm_l262 : vm_cf 12 43 0 156 1002 := ⟨RL, vm_m156, rfl, rfl, ⟨vm_r22 _ (List.mem_of_getElem? (i := 6) rfl), vm_r22 _ (List.mem_of_getElem? (i := 7) rfl), vm_r22 _ (List.mem_of_getElem? (i := 8) rfl)⟩, fun _ => by decide +kernel, fun _ => by decide +kernel⟩
theorem vm_l263 : vm_cf 12 44 0 100 902 := ⟨RL, vm_m100, rfl, rfl, ⟨vm_r22 _ (List.mem_of_getElem? (i := 14) rfl), vm_r22 _ (List.mem_of_getElem? (i := 15) rfl), vm_r22 _ (List.mem_of_getElem? (i := 16) rfl)⟩, fun _ => by decide +kernel, fun _ => by decide +kernel⟩
theorem vm_l264 : vm_cf 12 47 0 166 1002 := ⟨RL, vm_m166, rfl, rfl, ⟨vm_r25 _ (List.mem_of_getElem? (i := 2) rfl), vm_r25 _ (List.mem_of_getElem? (i := 3) rfl), vm_r25 _ (List.mem_of_getElem? (i := 4) rfl)⟩, fun _ => by decide +kernel, fun _ => by decide +kernel⟩
theorem vm_l265 : vm_cf 12 48 0 101 901 := ⟨RL, vm_m101, rfl, rfl, ⟨vm_r25 _ (List.mem_of_getElem? (i := 23) rfl), vm_r26 _ (List.mem_of_getElem? (i := 0) rfl), vm_r26 _ (List.mem_of_getElem? (i := 1) rfl)⟩, fun _ => by decide +kernel, fun _ => by decide +kernel⟩
theorem vm_l266 : vm_cf 12 51 0 167 1001 := ⟨RL, vm_m167, rfl, rfl, ⟨vm_r26 _ (List.mem_of_getElem? (i := 15) rfl), vm_r26 _ (List.mem_of_getElem? (i := 16) rfl), vm_r26 _ (List.mem_of_getElem? (i := 17) rfl)⟩, fun _ => by decide +kernel, fun _ => by decide +kernel⟩
theorem vm_l267 : vm_cf 12 52 0 102 902 := ⟨RL, vm_m102, rfl, rfl, ⟨vm_r27 _ (List.mem_of_getElem? (i := 7) rfl), vm_r27 _ (List.mem_of_getElem? (i := 8) rfl), vm_r27 _ (List.mem_of_getElem? (i := 9) rfl)⟩, fun _ => by decide +kernel, fun _ => by decide +kernel⟩
theorem vm_l268 : vm_cf 12 55 0 170 1002 := ⟨RL, vm_m170, rfl, rfl, ⟨vm_r27 _ (List.mem_of_getElem? (i := 23) rfl), vm_r28 _ (List.mem_of_getElem? (i := 0) rfl), vm_r28 _ (List.mem_of_getElem? (i := 1) rfl)⟩, fun _ => by decide +kernel, fun _ => by decide +kernel⟩
theorem vm_l269 : vm_cf 12 56 0 103 902 := ⟨RL, vm_m103, rfl, rfl, ⟨vm_r28 _ (List.mem_of_getElem? (i := 9) rfl), vm_r28 _ (List.mem_of_getElem? (i := 10) rfl), vm_r28 _ (List.mem_of_getElem? (i := 11) rfl)⟩, fun _ => by decide +kernel, fun _ => by decide +kernel⟩
theorem vm_l270 : vm_cf 12 59 0 171 1002 := ⟨RL, vm_m171, rfl, rfl, ⟨vm_r28 _ (List.mem_of_getElem? (i := 19) rfl), vm_r28 _ (List.mem_of_getElem? (i := 20) rfl), vm_r28 _ (List.mem_of_getElem? (i := 21) rfl)⟩, fun _ => by decide +kernel, fun _ => by decide +kernel⟩
theorem vm_l271 : vm_cf 12 60 0 104 903 := ⟨RL, vm_m104, rfl, rfl, ⟨vm_r29 _ (List.mem_of_getElem? (i := 3) rfl), vm_r29 _ (List.mem_of_getElem? (i := 4) rfl), vm_r29 _ (List.mem_of_getElem? (i := 5) rfl)⟩, fun _ => by decide +kernel, fun _ => by decide +kernel⟩
theorem vm_l272 : vm_cf 12 64 0 173 1003 := ⟨RL, vm_m173, rfl, rfl, ⟨vm_r29 _ (List.mem_of_getElem? (i := 15) rfl), vm_r29 _ (List.mem_of_getElem? (i := 16) rfl), vm_r29 _ (List.mem_of_getElem? (i := 17) rfl)⟩, fun _ => by decide +kernel, fun _ => by decide +kernel⟩
theorem vm_l273 : vm_cf 12 65 0 105 900 := ⟨RL, vm_m105, rfl, rfl, ⟨vm_r29 _ (List.mem_of_getElem? (i := 23) rfl), vm_r30 _ (List.mem_of_getElem? (i := 0) rfl), vm_r30 _ (List.mem_of_getElem? (i := 1) rfl)⟩, fun _ => by decide +kernel, fun _ => by decide +kernel⟩
theorem vm_l274 : vm_cf 12 68 0 174 1000 := ⟨RL, vm_m174, rfl, rfl, ⟨vm_r30 _ (List.mem_of_getElem? (i := 11) rfl), vm_r30 _ (List.mem_of_getElem? (i := 12) rfl), vm_r30 _ (List.mem_of_getElem? (i := 13) rfl)⟩, fun _ => by decide +kernel, fun _ => by decide +kernel⟩
theorem vm_l275 : vm_cf 12 69 0 106 901 := ⟨RL, vm_m106, rfl, rfl, ⟨vm_r30 _ (List.mem_of_getElem? (i := 15) rfl), vm_r30 _ (List.mem_of_getElem? (i := 16) rfl), vm_r30 _ (List.mem_of_getElem? (i := 17) rfl)⟩, fun _ => by decide +kernel, fun _ => by decide +kernel⟩
theorem vm_l276 : vm_cf 12 72 0 175 1001 := ⟨RL, vm_m175, rfl, rfl, ⟨vm_r30 _ (List.mem_of_getElem? (i := 23) rfl), vm_r31 _ (List.mem_of_getElem? (i := 0) rfl), vm_r31 _ (List.mem_of_getElem? (i := 1) rfl)⟩, fun _ => by decide +kernel, fun _ => by decide +kernel⟩
theorem vm_l277 : vm_cf 12 73 0 107 903 := ⟨RL, vm_m107, rfl, rfl, ⟨vm_r31 _ (List.mem_of_getElem? (i := 3) rfl), vm_r31 _ (List.mem_of_getElem? (i := 4) rfl), vm_r31 _ (List.mem_of_getElem? (i := 5) rfl)⟩, fun _ => by decide +kernel, fun _ => by decide +kernel⟩
theorem vm_l278 : vm_cf 12 76 0 180 1003 := ⟨RL, vm_m180, rfl, rfl, ⟨vm_r32 _ (List.mem_of_getElem? (i := 15) rfl), vm_r32 _ (List.mem_of_getElem? (i := 16) rfl), vm_r32 _ (List.mem_of_getElem? (i := 17) rfl)⟩, fun _ => by decide +kernel, fun _ => by decide +kernel⟩
theorem vm_l279 : vm_cf 12 77 0 108 903 := ⟨RL, vm_m108, rfl, rfl, ⟨vm_r33 _ (List.mem_of_getElem? (i := 13) rfl), vm_r33 _ (List.mem_of_getElem? (i := 14) rfl), vm_r33 _ (List.mem_of_getElem? (i := 15) rfl)⟩, fun _ => by decide +kernel, fun _ => by decide +kernel⟩
theorem vm_l280 : vm_cf 12 80 0 183 1003 := ⟨RL, vm_m183, rfl, rfl, ⟨vm_r35 _ (List.mem_of_getElem? (i := 8) rfl), vm_r35 _ (List.mem_of_getElem? (i := 9) rfl), vm_r35 _ (List.mem_of_getElem? (i := 10) rfl)⟩, fun _ => by decide +kernel, fun _ => by decide +kernel⟩
theorem vm_l281 : vm_cf 12 81 0 109 903 := ⟨RL, vm_m109, rfl, rfl, ⟨vm_r36 _ (List.mem_of_getElem? (i := 0) rfl), vm_r36 _ (List.mem_of_getElem? (i := 1) rfl), vm_r36 _ (List.mem_of_getElem? (i := 2) rfl)⟩, fun _ => by decide +kernel, fun _ => by decide +kernel⟩
theorem vm_l282 : vm_cf 12 84 0 186 1003 := ⟨RL, vm_m186, rfl, rfl, ⟨vm_r37 _ (List.mem_of_getElem? (i := 3) rfl), vm_r37 _ (List.mem_of_getElem? (i := 4) rfl), vm_r37 _ (List.mem_of_getElem? (i := 5) rfl)⟩, fun _ => by decide +kernel, fun _ => by decide +kernel⟩
theorem vm_l283 : vm_cf 12 85 0 110 901 := ⟨RL, vm_m110, rfl, rfl, ⟨vm_r37 _ (List.mem_of_getElem? (i := 15) rfl), vm_r37 _ (List.mem_of_getElem? (i := 16) rfl), vm_r37 _ (List.mem_of_getElem? (i := 17) rfl)⟩, fun _ => by decide +kernel, fun _ => by decide +kernel⟩
theorem vm_l284 : vm_cf 12 88 0 187 1001 := ⟨RL, vm_m187, rfl, rfl, ⟨vm_r37 _ (List.mem_of_getElem? (i := 20) rfl), vm_r37 _ (List.mem_of_getElem? (i := 21) rfl), vm_r37 _ (List.mem_of_getElem? (i := 22) rfl)⟩, fun _ => by decide +kernel, fun _ => by decide +kernel⟩
theorem vm_l285 : vm_cf 12 89 0 111 903 := ⟨RL, vm_m111, rfl, rfl, ⟨vm_r38 _ (List.mem_of_getElem? (i := 3) rfl), vm_r38 _ (List.mem_of_getElem? (i := 4) rfl), vm_r38 _ (List.mem_of_getElem? (i := 5) rfl)⟩, fun _ => by decide +kernel, fun _ => by decide +kernel⟩
theorem vm_l286 : vm_cf 12 92 0 189 1003 := ⟨RL, vm_m189, rfl, rfl, ⟨vm_r38 _ (List.mem_of_getElem? (i := 11) rfl), vm_r38 _ (List.mem_of_getElem? (i := 12) rfl), vm_r38 _ (List.mem_of_getElem? (i := 13) rfl)⟩, fun _ => by decide +kernel, fun _ => by decide +kernel⟩
theorem vm_l287 : vm_cf 12 93 0 112 901 := ⟨RL, vm_m112, rfl, rfl, ⟨vm_r38 _ (List.mem_of_getElem? (i := 19) rfl), vm_r38 _ (List.mem_of_getElem? (i := 20) rfl), vm_r38 _ (List.mem_of_getElem? (i := 21) rfl)⟩, fun _ => by decide +kernel, fun _ => by decide +kernel⟩
theorem vm_l288 : vm_cf 12 96 0 190 1001 := ⟨RL, vm_m190, rfl, rfl, ⟨vm_r38 _ (List.mem_of_getElem? (i := 23) rfl), vm_r39 _ (List.mem_of_getElem? (i := 0) rfl), vm_r39 _ (List.mem_of_getElem? (i := 1) rfl)⟩, fun _ => by decide +kernel, fun _ => by decide +kernel⟩
theorem vm_l289 : vm_cf 12 97 0 113 900 := ⟨RL, vm_m113, rfl, rfl, ⟨vm_r39 _ (List.mem_of_getElem? (i := 3) rfl), vm_r39 _ (List.mem_of_getElem? (i := 4) rfl), vm_r39 _ (List.mem_of_getElem? (i := 5) rfl)⟩, fun _ => by decide +kernel, fun _ => by decide +kernel⟩
theorem vm_l290 : vm_cf 12 100 0 191 1000 := ⟨RL, vm_m191, rfl, rfl, ⟨vm_r39 _ (List.mem_of_getElem? (i := 7) rfl), vm_r39 _ (List.mem_of_getElem? (i := 8) rfl), vm_r39 _ (List.mem_of_getElem? (i := 9) rfl)⟩, fun _ => by decide +kernel, fun _ => by decide +kernel⟩
theorem vm_l291 : vm_cf 12 101 0 114 901 := ⟨RL, vm_m114, rfl, rfl, ⟨vm_r39 _ (List.mem_of_getElem? (i := 11) rfl), vm_r39 _ (List.mem_of_getElem? (i := 12) rfl), vm_r39 _ (List.mem_of_getElem? (i := 13) rfl)⟩, fun _ => by decide +kernel, fun _ => by decide +kernel⟩
theorem vm_l292 : vm_cf 12 104 0 192 1001 := ⟨RL, vm_m192, rfl, rfl, ⟨vm_r39 _ (List.mem_of_getElem? (i := 23) rfl), vm_r40 _ (List.mem_of_getElem? (i := 0) rfl), vm_r40 _ (List.mem_of_getElem? (i := 1) rfl)⟩, fun _ => by decide +kernel, fun _ => by decide +kernel⟩
theorem vm_l293 : vm_cf 12 105 0 115 903 := ⟨RL, vm_m115, rfl, rfl, ⟨vm_r40 _ (List.mem_of_getElem? (i := 3) rfl), vm_r40 _ (List.mem_of_getElem? (i := 4) rfl), vm_r40 _ (List.mem_of_getElem? (i := 5) rfl)⟩, fun _ => by decide +kernel, fun _ => by decide +kernel⟩
theorem vm_l294 : vm_cf 12 108 0 193 1003 := ⟨RL, vm_m193, rfl, rfl, ⟨vm_r40 _ (List.mem_of_getElem? (i := 17) rfl), vm_r40 _ (List.mem_of_getElem? (i := 18) rfl), vm_r40 _ (List.mem_of_getElem? (i := 19) rfl)⟩, fun _ => by decide +kernel, fun _ => by decide +kernel⟩
theorem vm_l295 : vm_cf 12 109 0 116 904 := ⟨RL, vm_m116, rfl, rfl, ⟨vm_r40 _ (List.mem_of_getElem? (i := 22) rfl), vm_r40 _ (List.mem_of_getElem? (i := 23) rfl), vm_r41 _ (List.mem_of_getElem? (i := 0) rfl)⟩, fun _ => by decide +kernel, fun _ => by decide +kernel⟩
theorem vm_l296 : vm_cf 12 113 0 195 1004 := ⟨RL, vm_m195, rfl, rfl, ⟨vm_r42 _ (List.mem_of_getElem? (i := 1) rfl), vm_r42 _ (List.mem_of_getElem? (i := 2) rfl), vm_r42 _ (List.mem_of_getElem? (i := 3) rfl)⟩, fun _ => by decide +kernel, fun _ => by decide +kernel⟩
theorem vm_l297 : vm_cf 12 114 0 117 903 := ⟨RL, vm_m117, rfl, rfl, ⟨vm_r42 _ (List.mem_of_getElem? (i := 9) rfl), vm_r42 _ (List.mem_of_getElem? (i := 10) rfl), vm_r42 _ (List.mem_of_getElem? (i := 11) rfl)⟩, fun _ => by decide +kernel, fun _ => by decide +kernel⟩
theorem vm_l298 : vm_cf 12 117 0 197 1003 := ⟨RL, vm_m197, rfl, rfl, ⟨vm_r43 _ (List.mem_of_getElem? (i := 8) rfl), vm_r43 _ (List.mem_of_getElem? (i := 9) rfl), vm_r43 _ (List.mem_of_getElem? (i := 10) rfl)⟩, fun _ => by decide +kernel, fun _ => by decide +kernel⟩
theorem vm_l299 : vm_cf 12 118 0 118 900 := ⟨RL, vm_m118, rfl, rfl, ⟨vm_r43 _ (List.mem_of_getElem? (i := 20) rfl), vm_r43 _ (List.mem_of_getElem? (i := 21) rfl), vm_r43 _ (List.mem_of_getElem? (i := 22) rfl)⟩, fun _ => by decide +kernel, fun _ => by decide +kernel⟩
theorem vm_l300 : vm_cf 12 121 0 198 1000 := ⟨RL, vm_m198, rfl, rfl, ⟨vm_r44 _ (List.mem_of_getElem? (i := 1) rfl), vm_r44 _ (List.mem_of_getElem? (i := 2) rfl), vm_r44 _ (List.mem_of_getElem? (i := 3) rfl)⟩, fun _ => by decide +kernel, fun _ => by decide +kernel⟩
theorem vm_l301 : vm_cf 12 122 0 119 900 := ⟨RL, vm_m119, rfl, rfl, ⟨vm_r44 _ (List.mem_of_getElem? (i := 5) rfl), vm_r44 _ (List.mem_of_getElem? (i := 6) rfl), vm_r44 _ (List.mem_of_getElem? (i := 7) rfl)⟩, fun _ => by decide +kernel, fun _ => by decide +kernel⟩
theorem vm_l302 : vm_cf 12 125 0 199 1000 := ⟨RL, vm_m199, rfl, rfl, ⟨vm_r44 _ (List.mem_of_getElem? (i := 9) rfl), vm_r44 _ (List.mem_of_getElem? (i := 10) rfl), vm_r44 _ (List.mem_of_getElem? (i := 11) rfl)⟩, fun _ => by decide +kernel, fun _ => by decide +kernel⟩
theorem vm_l303 : vm_cf 12 126 0 120 901 := ⟨RL, vm_m120, rfl, rfl, ⟨vm_r44 _ (List.mem_of_getElem? (i := 13) rfl), vm_r44 _ (List.mem_of_getElem? (i := 14) rfl), vm_r44 _ (List.mem_of_getElem? (i := 15) rfl)⟩, fun _ => by decide +kernel, fun _ => by decide +kernel⟩
theorem vm_l304 : vm_cf 12 129 0 201 1001 := ⟨RL, vm_m201, rfl, rfl, ⟨vm_r45 _ (List.mem_of_getElem? (i := 1) rfl), vm_r45 _ (List.mem_of_getElem? (i := 2) rfl), vm_r45 _ (List.mem_of_getElem? (i := 3) rfl)⟩, fun _ => by decide +kernel, fun _ => by decide +kernel⟩
set_option maxRecDepth 100000 in
def vm_cT : List (Nat × Nat × Nat × Nat × Nat) := [(0, 3, 5, 0, 0), (0, 13, 2, 54, 1), (0, 24, 0, 57, 500), (0, 31, 0, 62, 501), (0, 35, 0, 56, 500), (0, 39, 0, 59, 501), (0, 43, 0, 76, 701), (0, 49, 3, 126, 3), (0, 53, 0, 58, 501), (0, 56, 0, 55, 500), (0, 60, 0, 4, 0), (0, 63, 0, 60, 502), (0, 67, 0, 7, 2), (0, 70, 0, 8, 3), (0, 73, 0, 10, 1), (0, 76, 0, 9, 3), (0, 79, 1, 30, 2), (0, 84, 0, 13, 2), (0, 87, 0, 78, 702), (0, 90, 0, 80, 701), (0, 93, 1, 31, 3), (0, 97, 1, 203, 2), (0, 102, 0, 14, 0), (0, 105, 0, 15, 2), (0, 109, 0, 16, 2), (0, 112, 0, 11, 2), (0, 115, 0, 12, 2), (1, 3, 5, 0, 0), (1, 11, 2, 54, 1), (1, 27, 0, 61, 501), (1, 32, 0, 7, 2), (1, 36, 0, 60, 502), (1, 40, 0, 5, 0), (1, 44, 0, 80, 701), (1, 50, 0, 27, 103), (1, 54, 0, 59, 501), (1, 56, 1, 29, 2), (1, 59, 1, 31, 3), (1, 65, 0, 28, 102), (1, 68, 0, 62, 501), (2, 9, 1, 32, 1), (2, 15, 1, 203, 2), (2, 21, 1, 202, 2), (3, 3, 5, 0, 0), (3, 11, 2, 54, 1), (3, 27, 0, 5, 0), (3, 37, 1, 203, 2), (3, 45, 0, 57, 500), (3, 48, 0, 7, 2), (3, 51, 0, 58, 501), (3, 54, 0, 61, 501), (3, 57, 0, 36, 204), (3, 61, 0, 59, 501), (3, 64, 0, 37, 204), (3, 67, 0, 60, 502), (3, 71, 0, 80, 701), (3, 76, 1, 31, 3), (3, 82, 1, 30, 2), (4, 3, 5, 0, 0), (4, 13, 2, 54, 1), (4, 36, 0, 57, 500), (4, 39, 0, 61, 501), (4, 42, 0, 41, 304), (4, 46, 0, 55, 500), (4, 50, 0, 59, 501), (4, 54, 0, 42, 301), (4, 57, 0, 79, 702), (4, 63, 0, 60, 502), (4, 67, 0, 58, 501), (5, 3, 5, 0, 0), (5, 13, 2, 54, 1), (5, 22, 4, 70, 0), (5, 29, 2, 0, 1), (5, 39, 0, 4, 0), (5, 43, 0, 77, 700), (5, 47, 0, 71, 700), (5, 50, 0, 1, 0), (5, 55, 0, 55, 500), (5, 58, 0, 48, 400), (5, 61, 0, 52, 400), (5, 64, 0, 49, 401), (5, 68, 0, 73, 701), (5, 72, 0, 50, 401), (5, 75, 0, 59, 501), (5, 79, 0, 74, 701), (5, 82, 0, 3, 1), (5, 85, 0, 57, 500), (5, 86, 1, 53, 1), (5, 89, 0, 58, 501), (5, 92, 0, 51, 400), (6, 3, 5, 0, 0), (6, 9, 1, 202, 2), (6, 25, 0, 57, 500), (6, 28, 0, 55, 500), (6, 31, 0, 59, 501), (6, 35, 0, 58, 501), (7, 1, 5, 0, 0), (7, 7, 1, 202, 2), (7, 21, 2, 0, 1), (7, 28, 0, 65, 600), (7, 35, 0, 69, 601), (7, 39, 0, 2, 1), (7, 43, 1, 204, 2), (8, 3, 5, 0, 0), (8, 11, 2, 54, 1), (8, 33, 0, 57, 500), (8, 36, 0, 62, 501), (8, 40, 0, 56, 500), (8, 44, 0, 59, 501), (8, 48, 0, 58, 501), (8, 51, 3, 126, 3), (8, 55, 0, 55, 500), (8, 59, 0, 76, 701), (8, 63, 3, 125, 1), (8, 66, 0, 78, 702), (8, 70, 1, 204, 2), (8, 75, 0, 82, 701), (8, 78, 0, 79, 702), (8, 81, 0, 84, 702), (8, 85, 0, 61, 501), (8, 88, 0, 60, 502), (8, 92, 0, 86, 700), (9, 3, 5, 0, 0), (9, 11, 2, 54, 1), (9, 29, 0, 7, 2), (9, 33, 0, 81, 701), (9, 43, 0, 57, 500), (9, 46, 0, 58, 501), (9, 49, 0, 61, 501), (9, 55, 0, 90, 803), (9, 59, 0, 59, 501), (9, 61, 0, 91, 804), (9, 65, 1, 30, 2), (9, 70, 0, 60, 502), (9, 74, 0, 79, 702), (10, 1, 5, 0, 0), (10, 11, 2, 54, 1), (10, 23, 4, 70, 0), (10, 30, 2, 0, 1), (10, 42, 2, 63, 2), (10, 54, 2, 43, 1), (10, 63, 2, 33, 1), (10, 70, 2, 87, 1), (10, 77, 2, 38, 1), (10, 84, 2, 25, 1), (10, 91, 6, 0, 0), (10, 97, 7, 0, 0), (10, 101, 0, 58, 501), (10, 104, 0, 121, 900), (10, 108, 0, 57, 500), (10, 111, 1, 126, 3), (10, 115, 0, 56, 500), (10, 118, 0, 55, 500), (10, 121, 0, 47, 400), (10, 124, 0, 4, 0), (10, 127, 0, 76, 701), (10, 131, 1, 125, 1), (10, 134, 0, 78, 702), (10, 138, 0, 5, 0), (10, 141, 0, 80, 701), (10, 145, 0, 6, 1), (10, 148, 0, 7, 2), (10, 151, 0, 11, 2), (10, 155, 0, 67, 601), (10, 159, 0, 12, 2), (10, 163, 0, 14, 0), (10, 166, 0, 22, 0), (10, 169, 0, 123, 902), (10, 172, 0, 15, 2), (10, 175, 0, 16, 2), (10, 178, 0, 10, 1), (10, 181, 0, 17, 2), (10, 184, 0, 18, 3), (10, 187, 0, 19, 3), (10, 191, 0, 68, 601), (10, 195, 0, 64, 600), (10, 196, 0, 20, 1), (10, 199, 0, 34, 203), (10, 203, 0, 35, 201), (10, 206, 0, 88, 803), (10, 207, 0, 89, 801), (10, 210, 0, 39, 302), (10, 213, 0, 40, 301), (10, 214, 0, 81, 701), (10, 217, 0, 122, 904), (10, 221, 0, 83, 702), (10, 225, 0, 85, 703), (10, 229, 0, 26, 105), (10, 233, 0, 2, 1), (10, 236, 1, 124, 2), (10, 239, 0, 21, 1), (10, 242, 0, 24, 0), (10, 245, 0, 65, 600), (10, 246, 0, 66, 600), (10, 247, 0, 75, 700), (10, 250, 0, 23, 0), (10, 253, 0, 46, 400), (10, 256, 0, 44, 400), (10, 259, 0, 72, 701), (10, 261, 0, 45, 400), (11, 1, 5, 0, 0), (11, 61, 1, 131, 2), (11, 65, 1, 132, 4), (11, 69, 0, 133, 1000), (11, 86, 1, 128, 3), (11, 96, 0, 136, 1000), (11, 104, 1, 138, 1), (11, 111, 0, 139, 1002), (11, 115, 0, 137, 1001), (11, 118, 0, 140, 1000), (11, 122, 0, 141, 1000), (11, 125, 0, 142, 1000), (11, 128, 0, 143, 1000), (11, 131, 0, 144, 1000), (11, 134, 0, 146, 1000), (11, 137, 1, 130, 5), (11, 143, 0, 151, 1002), (11, 147, 0, 148, 1001), (11, 150, 1, 149, 1), (11, 155, 0, 153, 1001), (11, 159, 0, 150, 1001), (11, 162, 1, 157, 2), (11, 165, 1, 160, 2), (11, 168, 1, 158, 3), (11, 172, 1, 161, 3), (11, 176, 0, 165, 1000), (11, 179, 0, 162, 1003), (11, 185, 0, 163, 1001), (11, 189, 0, 164, 1001), (11, 193, 1, 168, 3), (11, 196, 1, 169, 3), (11, 199, 0, 159, 1001), (11, 202, 0, 172, 1003), (11, 206, 0, 178, 1001), (11, 210, 0, 177, 1003), (11, 215, 0, 176, 1001), (11, 219, 0, 179, 1002), (11, 222, 0, 152, 1002), (11, 225, 0, 181, 1003), (11, 228, 0, 182, 1002), (11, 231, 0, 185, 1001), (11, 234, 0, 184, 1002), (11, 237, 1, 129, 2), (11, 240, 0, 188, 1004), (11, 248, 1, 194, 3), (11, 262, 1, 196, 1), (11, 265, 0, 200, 1000), (12, 9, 2, 92, 0), (12, 12, 2, 127, 0), (12, 13, 0, 93, 901), (12, 17, 0, 134, 1001), (12, 18, 0, 94, 900), (12, 22, 0, 135, 1000), (12, 23, 0, 95, 900), (12, 26, 0, 145, 1000), (12, 27, 0, 96, 900), (12, 30, 0, 147, 1000), (12, 31, 0, 97, 902), (12, 35, 0, 154, 1002), (12, 36, 0, 98, 901), (12, 39, 0, 155, 1001), (12, 40, 0, 99, 902), (12, 43, 0, 156, 1002), (12, 44, 0, 100, 902), (12, 47, 0, 166, 1002), (12, 48, 0, 101, 901), (12, 51, 0, 167, 1001), (12, 52, 0, 102, 902), (12, 55, 0, 170, 1002), (12, 56, 0, 103, 902), (12, 59, 0, 171, 1002), (12, 60, 0, 104, 903), (12, 64, 0, 173, 1003), (12, 65, 0, 105, 900), (12, 68, 0, 174, 1000), (12, 69, 0, 106, 901), (12, 72, 0, 175, 1001), (12, 73, 0, 107, 903), (12, 76, 0, 180, 1003), (12, 77, 0, 108, 903), (12, 80, 0, 183, 1003), (12, 81, 0, 109, 903), (12, 84, 0, 186, 1003), (12, 85, 0, 110, 901), (12, 88, 0, 187, 1001), (12, 89, 0, 111, 903), (12, 92, 0, 189, 1003), (12, 93, 0, 112, 901), (12, 96, 0, 190, 1001), (12, 97, 0, 113, 900), (12, 100, 0, 191, 1000), (12, 101, 0, 114, 901), (12, 104, 0, 192, 1001), (12, 105, 0, 115, 903), (12, 108, 0, 193, 1003), (12, 109, 0, 116, 904), (12, 113, 0, 195, 1004), (12, 114, 0, 117, 903), (12, 117, 0, 197, 1003), (12, 118, 0, 118, 900), (12, 121, 0, 198, 1000), (12, 122, 0, 119, 900), (12, 125, 0, 199, 1000), (12, 126, 0, 120, 901), (12, 129, 0, 201, 1001)]
theorem vm_cT_0 : ∀ q ∈ ([(0, 3, 5, 0, 0), (0, 13, 2, 54, 1), (0, 24, 0, 57, 500), (0, 31, 0, 62, 501), (0, 35, 0, 56, 500), (0, 39, 0, 59, 501), (0, 43, 0, 76, 701), (0, 49, 3, 126, 3), (0, 53, 0, 58, 501), (0, 56, 0, 55, 500), (0, 60, 0, 4, 0), (0, 63, 0, 60, 502), (0, 67, 0, 7, 2), (0, 70, 0, 8, 3), (0, 73, 0, 10, 1), (0, 76, 0, 9, 3)] : List (Nat × Nat × Nat × Nat × Nat)), vm_cf q.1 q.2.1 q.2.2.1 q.2.2.2.1 q.2.2.2.2 := List.forall_mem_cons.mpr ⟨vm_l0, List.forall_mem_cons.mpr ⟨vm_l1, List.forall_mem_cons.mpr ⟨vm_l2, List.forall_mem_cons.mpr ⟨vm_l3, List.forall_mem_cons.mpr ⟨vm_l4, List.forall_mem_cons.mpr ⟨vm_l5, List.forall_mem_cons.mpr ⟨vm_l6, List.forall_mem_cons.mpr ⟨vm_l7, List.forall_mem_cons.mpr ⟨vm_l8, List.forall_mem_cons.mpr ⟨vm_l9, List.forall_mem_cons.mpr ⟨vm_l10, List.forall_mem_cons.mpr ⟨vm_l11, List.forall_mem_cons.mpr ⟨vm_l12, List.forall_mem_cons.mpr ⟨vm_l13, List.forall_mem_cons.mpr ⟨vm_l14, List.forall_mem_cons.mpr ⟨vm_l15, fun _ h => absurd h List.not_mem_nil⟩⟩⟩⟩⟩⟩⟩⟩⟩⟩⟩⟩⟩⟩⟩⟩
theorem vm_cT_1 : ∀ q ∈ ([(0, 79, 1, 30, 2), (0, 84, 0, 13, 2), (0, 87, 0, 78, 702), (0, 90, 0, 80, 701), (0, 93, 1, 31, 3), (0, 97, 1, 203, 2), (0, 102, 0, 14, 0), (0, 105, 0, 15, 2), (0, 109, 0, 16, 2), (0, 112, 0, 11, 2), (0, 115, 0, 12, 2), (1, 3, 5, 0, 0), (1, 11, 2, 54, 1), (1, 27, 0, 61, 501), (1, 32, 0, 7, 2), (1, 36, 0, 60, 502)] : List (Nat × Nat × Nat × Nat × Nat)), vm_cf q.1 q.2.1 q.2.2.1 q.2.2.2.1 q.2.2.2.2 := List.forall_mem_cons.mpr ⟨vm_l16, List.forall_mem_cons.mpr ⟨vm_l17, List.forall_mem_cons.mpr ⟨vm_l18, List.forall_mem_cons.mpr ⟨vm_l19, List.forall_mem_cons.mpr ⟨vm_l20, List.forall_mem_cons.mpr ⟨vm_l21, List.forall_mem_cons.mpr ⟨vm_l22, List.forall_mem_cons.mpr ⟨vm_l23, List.forall_mem_cons.mpr ⟨vm_l24, List.forall_mem_cons.mpr ⟨vm_l25, List.forall_mem_cons.mpr ⟨vm_l26, List.forall_mem_cons.mpr ⟨vm_l27, List.forall_mem_cons.mpr ⟨vm_l28, List.forall_mem_cons.mpr ⟨vm_l29, List.forall_mem_cons.mpr ⟨vm_l30, List.forall_mem_cons.mpr ⟨vm_l31, fun _ h => absurd h List.not_mem_nil⟩⟩⟩⟩⟩⟩⟩⟩⟩⟩⟩⟩⟩⟩⟩⟩
theorem vm_cT_2 : ∀ q ∈ ([(1, 40, 0, 5, 0), (1, 44, 0, 80, 701), (1, 50, 0, 27, 103), (1, 54, 0, 59, 501), (1, 56, 1, 29, 2), (1, 59, 1, 31, 3), (1, 65, 0, 28, 102), (1, 68, 0, 62, 501), (2, 9, 1, 32, 1), (2, 15, 1, 203, 2), (2, 21, 1, 202, 2), (3, 3, 5, 0, 0), (3, 11, 2, 54, 1), (3, 27, 0, 5, 0), (3, 37, 1, 203, 2), (3, 45, 0, 57, 500)] : List (Nat × Nat × Nat × Nat × Nat)), vm_cf q.1 q.2.1 q.2.2.1 q.2.2.2.1 q.2.2.2.2 := List.forall_mem_cons.mpr ⟨vm_l32, List.forall_mem_cons.mpr ⟨vm_l33, List.forall_mem_cons.mpr ⟨vm_l34, List.forall_mem_cons.mpr ⟨vm_l35, List.forall_mem_cons.mpr ⟨vm_l36, List.forall_mem_cons.mpr ⟨vm_l37, List.forall_mem_cons.mpr ⟨vm_l38, List.forall_mem_cons.mpr ⟨vm_l39, List.forall_mem_cons.mpr ⟨vm_l40, List.forall_mem_cons.mpr ⟨vm_l41, List.forall_mem_cons.mpr ⟨vm_l42, List.forall_mem_cons.mpr ⟨vm_l43, List.forall_mem_cons.mpr ⟨vm_l44, List.forall_mem_cons.mpr ⟨vm_l45, List.forall_mem_cons.mpr ⟨vm_l46, List.forall_mem_cons.mpr ⟨vm_l47, fun _ h => absurd h List.not_mem_nil⟩⟩⟩⟩⟩⟩⟩⟩⟩⟩⟩⟩⟩⟩⟩⟩
theorem vm_cT_3 : ∀ q ∈ ([(3, 48, 0, 7, 2), (3, 51, 0, 58, 501), (3, 54, 0, 61, 501), (3, 57, 0, 36, 204), (3, 61, 0, 59, 501), (3, 64, 0, 37, 204), (3, 67, 0, 60, 502), (3, 71, 0, 80, 701), (3, 76, 1, 31, 3), (3, 82, 1, 30, 2), (4, 3, 5, 0, 0), (4, 13, 2, 54, 1), (4, 36, 0, 57, 500), (4, 39, 0, 61, 501), (4, 42, 0, 41, 304), (4, 46, 0, 55, 500)] : List (Nat × Nat × Nat × Nat × Nat)), vm_cf q.1 q.2.1 q.2.2.1 q.2.2.2.1 q.2.2.2.2 := List.forall_mem_cons.mpr ⟨vm_l48, List.forall_mem_cons.mpr ⟨vm_l49, List.forall_mem_cons.mpr ⟨vm_l50, List.forall_mem_cons.mpr ⟨vm_l51, List.forall_mem_cons.mpr ⟨vm_l52, List.forall_mem_cons.mpr ⟨vm_l53, List.forall_mem_cons.mpr ⟨vm_l54, List.forall_mem_cons.mpr ⟨vm_l55, List.forall_mem_cons.mpr ⟨vm_l56, List.forall_mem_cons.mpr ⟨vm_l57, List.forall_mem_cons.mpr ⟨vm_l58, List.forall_mem_cons.mpr ⟨vm_l59, List.forall_mem_cons.mpr ⟨vm_l60, List.forall_mem_cons.mpr ⟨vm_l61, List.forall_mem_cons.mpr ⟨vm_l62, List.forall_mem_cons.mpr ⟨vm_l63, fun _ h => absurd h List.not_mem_nil⟩⟩⟩⟩⟩⟩⟩⟩⟩⟩⟩⟩⟩⟩⟩⟩
theorem vm_cT_4 : ∀ q ∈ ([(4, 50, 0, 59, 501), (4, 54, 0, 42, 301), (4, 57, 0, 79, 702), (4, 63, 0, 60, 502), (4, 67, 0, 58, 501), (5, 3, 5, 0, 0), (5, 13, 2, 54, 1), (5, 22, 4, 70, 0), (5, 29, 2, 0, 1), (5, 39, 0, 4, 0), (5, 43, 0, 77, 700), (5, 47, 0, 71, 700), (5, 50, 0, 1, 0), (5, 55, 0, 55, 500), (5, 58, 0, 48, 400), (5, 61, 0, 52, 400)] : List (Nat × Nat × Nat × Nat × Nat)), vm_cf q.1 q.2.1 q.2.2.1 q.2.2.2.1 q.2.2.2.2 := List.forall_mem_cons.mpr ⟨vm_l64, List.forall_mem_cons.mpr ⟨vm_l65, List.forall_mem_cons.mpr ⟨vm_l66, List.forall_mem_cons.mpr ⟨vm_l67, List.forall_mem_cons.mpr ⟨vm_l68, List.forall_mem_cons.mpr ⟨vm_l69, List.forall_mem_cons.mpr ⟨vm_l70, List.forall_mem_cons.mpr ⟨vm_l71, List.forall_mem_cons.mpr ⟨vm_l72, List.forall_mem_cons.mpr ⟨vm_l73, List.forall_mem_cons.mpr ⟨vm_l74, List.forall_mem_cons.mpr ⟨vm_l75, List.forall_mem_cons.mpr ⟨vm_l76, List.forall_mem_cons.mpr ⟨vm_l77, List.forall_mem_cons.mpr ⟨vm_l78, List.forall_mem_cons.mpr ⟨vm_l79, fun _ h => absurd h List.not_mem_nil⟩⟩⟩⟩⟩⟩⟩⟩⟩⟩⟩⟩⟩⟩⟩⟩
theorem vm_cT_5 : ∀ q ∈ ([(5, 64, 0, 49, 401), (5, 68, 0, 73, 701), (5, 72, 0, 50, 401), (5, 75, 0, 59, 501), (5, 79, 0, 74, 701), (5, 82, 0, 3, 1), (5, 85, 0, 57, 500), (5, 86, 1, 53, 1), (5, 89, 0, 58, 501), (5, 92, 0, 51, 400), (6, 3, 5, 0, 0), (6, 9, 1, 202, 2), (6, 25, 0, 57, 500), (6, 28, 0, 55, 500), (6, 31, 0, 59, 501), (6, 35, 0, 58, 501)] : List (Nat × Nat × Nat × Nat × Nat)), vm_cf q.1 q.2.1 q.2.2.1 q.2.2.2.1 q.2.2.2.2 := List.forall_mem_cons.mpr ⟨vm_l80, List.forall_mem_cons.mpr ⟨vm_l81, List.forall_mem_cons.mpr ⟨vm_l82, List.forall_mem_cons.mpr ⟨vm_l83, List.forall_mem_cons.mpr ⟨vm_l84, List.forall_mem_cons.mpr ⟨vm_l85, List.forall_mem_cons.mpr ⟨vm_l86, List.forall_mem_cons.mpr ⟨vm_l87, List.forall_mem_cons.mpr ⟨vm_l88, List.forall_mem_cons.mpr ⟨vm_l89, List.forall_mem_cons.mpr ⟨vm_l90, List.forall_mem_cons.mpr ⟨vm_l91, List.forall_mem_cons.mpr ⟨vm_l92, List.forall_mem_cons.mpr ⟨vm_l93, List.forall_mem_cons.mpr ⟨vm_l94, List.forall_mem_cons.mpr ⟨vm_l95, fun _ h => absurd h List.not_mem_nil⟩⟩⟩⟩⟩⟩⟩⟩⟩⟩⟩⟩⟩⟩⟩⟩
theorem vm_cT_6 : ∀ q ∈ ([(7, 1, 5, 0, 0), (7, 7, 1, 202, 2), (7, 21, 2, 0, 1), (7, 28, 0, 65, 600), (7, 35, 0, 69, 601), (7, 39, 0, 2, 1), (7, 43, 1, 204, 2), (8, 3, 5, 0, 0), (8, 11, 2, 54, 1), (8, 33, 0, 57, 500), (8, 36, 0, 62, 501), (8, 40, 0, 56, 500), (8, 44, 0, 59, 501), (8, 48, 0, 58, 501), (8, 51, 3, 126, 3), (8, 55, 0, 55, 500)] : List (Nat × Nat × Nat × Nat × Nat)), vm_cf q.1 q.2.1 q.2.2.1 q.2.2.2.1 q.2.2.2.2 := List.forall_mem_cons.mpr ⟨vm_l96, List.forall_mem_cons.mpr ⟨vm_l97, List.forall_mem_cons.mpr ⟨vm_l98, List.forall_mem_cons.mpr ⟨vm_l99, List.forall_mem_cons.mpr ⟨vm_l100, List.forall_mem_cons.mpr ⟨vm_l101, List.forall_mem_cons.mpr ⟨vm_l102, List.forall_mem_cons.mpr ⟨vm_l103, List.forall_mem_cons.mpr ⟨vm_l104, List.forall_mem_cons.mpr ⟨vm_l105, List.forall_mem_cons.mpr ⟨vm_l106, List.forall_mem_cons.mpr ⟨vm_l107, List.forall_mem_cons.mpr ⟨vm_l108, List.forall_mem_cons.mpr ⟨vm_l109, List.forall_mem_cons.mpr ⟨vm_l110, List.forall_mem_cons.mpr ⟨vm_l111, fun _ h => absurd h List.not_mem_nil⟩⟩⟩⟩⟩⟩⟩⟩⟩⟩⟩⟩⟩⟩⟩⟩
theorem vm_cT_7 : ∀ q ∈ ([(8, 59, 0, 76, 701), (8, 63, 3, 125, 1), (8, 66, 0, 78, 702), (8, 70, 1, 204, 2), (8, 75, 0, 82, 701), (8, 78, 0, 79, 702), (8, 81, 0, 84, 702), (8, 85, 0, 61, 501), (8, 88, 0, 60, 502), (8, 92, 0, 86, 700), (9, 3, 5, 0, 0), (9, 11, 2, 54, 1), (9, 29, 0, 7, 2), (9, 33, 0, 81, 701), (9, 43, 0, 57, 500), (9, 46, 0, 58, 501)] : List (Nat × Nat × Nat × Nat × Nat)), vm_cf q.1 q.2.1 q.2.2.1 q.2.2.2.1 q.2.2.2.2 := List.forall_mem_cons.mpr ⟨vm_l112, List.forall_mem_cons.mpr ⟨vm_l113, List.forall_mem_cons.mpr ⟨vm_l114, List.forall_mem_cons.mpr ⟨vm_l115, List.forall_mem_cons.mpr ⟨vm_l116, List.forall_mem_cons.mpr ⟨vm_l117, List.forall_mem_cons.mpr ⟨vm_l118, List.forall_mem_cons.mpr ⟨vm_l119, List.forall_mem_cons.mpr ⟨vm_l120, List.forall_mem_cons.mpr ⟨vm_l121, List.forall_mem_cons.mpr ⟨vm_l122, List.forall_mem_cons.mpr ⟨vm_l123, List.forall_mem_cons.mpr ⟨vm_l124, List.forall_mem_cons.mpr ⟨vm_l125, List.forall_mem_cons.mpr ⟨vm_l126, List.forall_mem_cons.mpr ⟨vm_l127, fun _ h => absurd h List.not_mem_nil⟩⟩⟩⟩⟩⟩⟩⟩⟩⟩⟩⟩⟩⟩⟩⟩
theorem vm_cT_8 : ∀ q ∈ ([(9, 49, 0, 61, 501), (9, 55, 0, 90, 803), (9, 59, 0, 59, 501), (9, 61, 0, 91, 804), (9, 65, 1, 30, 2), (9, 70, 0, 60, 502), (9, 74, 0, 79, 702), (10, 1, 5, 0, 0), (10, 11, 2, 54, 1), (10, 23, 4, 70, 0), (10, 30, 2, 0, 1), (10, 42, 2, 63, 2), (10, 54, 2, 43, 1), (10, 63, 2, 33, 1), (10, 70, 2, 87, 1), (10, 77, 2, 38, 1)] : List (Nat × Nat × Nat × Nat × Nat)), vm_cf q.1 q.2.1 q.2.2.1 q.2.2.2.1 q.2.2.2.2 := List.forall_mem_cons.mpr ⟨vm_l128, List.forall_mem_cons.mpr ⟨vm_l129, List.forall_mem_cons.mpr ⟨vm_l130, List.forall_mem_cons.mpr ⟨vm_l131, List.forall_mem_cons.mpr ⟨vm_l132, List.forall_mem_cons.mpr ⟨vm_l133, List.forall_mem_cons.mpr ⟨vm_l134, List.forall_mem_cons.mpr ⟨vm_l135, List.forall_mem_cons.mpr ⟨vm_l136, List.forall_mem_cons.mpr ⟨vm_l137, List.forall_mem_cons.mpr ⟨vm_l138, List.forall_mem_cons.mpr ⟨vm_l139, List.forall_mem_cons.mpr ⟨vm_l140, List.forall_mem_cons.mpr ⟨vm_l141, List.forall_mem_cons.mpr ⟨vm_l142, List.forall_mem_cons.mpr ⟨vm_l143, fun _ h => absurd h List.not_mem_nil⟩⟩⟩⟩⟩⟩⟩⟩⟩⟩⟩⟩⟩⟩⟩⟩
theorem vm_cT_9 : ∀ q ∈ ([(10, 84, 2, 25, 1), (10, 91, 6, 0, 0), (10, 97, 7, 0, 0), (10, 101, 0, 58, 501), (10, 104, 0, 121, 900), (10, 108, 0, 57, 500), (10, 111, 1, 126, 3), (10, 115, 0, 56, 500), (10, 118, 0, 55, 500), (10, 121, 0, 47, 400), (10, 124, 0, 4, 0), (10, 127, 0, 76, 701), (10, 131, 1, 125, 1), (10, 134, 0, 78, 702), (10, 138, 0, 5, 0), (10, 141, 0, 80, 701)] : List (Nat × Nat × Nat × Nat × Nat)), vm_cf q.1 q.2.1 q.2.2.1 q.2.2.2.1 q.2.2.2.2 := List.forall_mem_cons.mpr ⟨vm_l144, List.forall_mem_cons.mpr ⟨vm_l145, List.forall_mem_cons.mpr ⟨vm_l146, List.forall_mem_cons.mpr ⟨vm_l147, List.forall_mem_cons.mpr ⟨vm_l148, List.forall_mem_cons.mpr ⟨vm_l149, List.forall_mem_cons.mpr ⟨vm_l150, List.forall_mem_cons.mpr ⟨vm_l151, List.forall_mem_cons.mpr ⟨vm_l152, List.forall_mem_cons.mpr ⟨vm_l153, List.forall_mem_cons.mpr ⟨vm_l154, List.forall_mem_cons.mpr ⟨vm_l155, List.forall_mem_cons.mpr ⟨vm_l156, List.forall_mem_cons.mpr ⟨vm_l157, List.forall_mem_cons.mpr ⟨vm_l158, List.forall_mem_cons.mpr ⟨vm_l159, fun _ h => absurd h List.not_mem_nil⟩⟩⟩⟩⟩⟩⟩⟩⟩⟩⟩⟩⟩⟩⟩⟩
theorem vm_cT_10 : ∀ q ∈ ([(10, 145, 0, 6, 1), (10, 148, 0, 7, 2), (10, 151, 0, 11, 2), (10, 155, 0, 67, 601), (10, 159, 0, 12, 2), (10, 163, 0, 14, 0), (10, 166, 0, 22, 0), (10, 169, 0, 123, 902), (10, 172, 0, 15, 2), (10, 175, 0, 16, 2), (10, 178, 0, 10, 1), (10, 181, 0, 17, 2), (10, 184, 0, 18, 3), (10, 187, 0, 19, 3), (10, 191, 0, 68, 601), (10, 195, 0, 64, 600)] : List (Nat × Nat × Nat × Nat × Nat)), vm_cf q.1 q.2.1 q.2.2.1 q.2.2.2.1 q.2.2.2.2 := List.forall_mem_cons.mpr ⟨vm_l160, List.forall_mem_cons.mpr ⟨vm_l161, List.forall_mem_cons.mpr ⟨vm_l162, List.forall_mem_cons.mpr ⟨vm_l163, List.forall_mem_cons.mpr ⟨vm_l164, List.forall_mem_cons.mpr ⟨vm_l165, List.forall_mem_cons.mpr ⟨vm_l166, List.forall_mem_cons.mpr ⟨vm_l167, List.forall_mem_cons.mpr ⟨vm_l168, List.forall_mem_cons.mpr ⟨vm_l169, List.forall_mem_cons.mpr ⟨vm_l170, List.forall_mem_cons.mpr ⟨vm_l171, List.forall_mem_cons.mpr ⟨vm_l172, List.forall_mem_cons.mpr ⟨vm_l173, List.forall_mem_cons.mpr ⟨vm_l174, List.forall_mem_cons.mpr ⟨vm_l175, fun _ h => absurd h List.not_mem_nil⟩⟩⟩⟩⟩⟩⟩⟩⟩⟩⟩⟩⟩⟩⟩⟩
theorem vm_cT_11 : ∀ q ∈ ([(10, 196, 0, 20, 1), (10, 199, 0, 34, 203), (10, 203, 0, 35, 201), (10, 206, 0, 88, 803), (10, 207, 0, 89, 801), (10, 210, 0, 39, 302), (10, 213, 0, 40, 301), (10, 214, 0, 81, 701), (10, 217, 0, 122, 904), (10, 221, 0, 83, 702), (10, 225, 0, 85, 703), (10, 229, 0, 26, 105), (10, 233, 0, 2, 1), (10, 236, 1, 124, 2), (10, 239, 0, 21, 1), (10, 242, 0, 24, 0)] : List (Nat × Nat × Nat × Nat × Nat)), vm_cf q.1 q.2.1 q.2.2.1 q.2.2.2.1 q.2.2.2.2 := List.forall_mem_cons.mpr ⟨vm_l176, List.forall_mem_cons.mpr ⟨vm_l177, List.forall_mem_cons.mpr ⟨vm_l178, List.forall_mem_cons.mpr ⟨vm_l179, List.forall_mem_cons.mpr ⟨vm_l180, List.forall_mem_cons.mpr ⟨vm_l181, List.forall_mem_cons.mpr ⟨vm_l182, List.forall_mem_cons.mpr ⟨vm_l183, List.forall_mem_cons.mpr ⟨vm_l184, List.forall_mem_cons.mpr ⟨vm_l185, List.forall_mem_cons.mpr ⟨vm_l186, List.forall_mem_cons.mpr ⟨vm_l187, List.forall_mem_cons.mpr ⟨vm_l188, List.forall_mem_cons.mpr ⟨vm_l189, List.forall_mem_cons.mpr ⟨vm_l190, List.forall_mem_cons.mpr ⟨vm_l191, fun _ h => absurd h List.not_mem_nil⟩⟩⟩⟩⟩⟩⟩⟩⟩⟩⟩⟩⟩⟩⟩⟩
theorem vm_cT_12 : ∀ q ∈ ([(10, 245, 0, 65, 600), (10, 246, 0, 66, 600), (10, 247, 0, 75, 700), (10, 250, 0, 23, 0), (10, 253, 0, 46, 400), (10, 256, 0, 44, 400), (10, 259, 0, 72, 701), (10, 261, 0, 45, 400), (11, 1, 5, 0, 0), (11, 61, 1, 131, 2), (11, 65, 1, 132, 4), (11, 69, 0, 133, 1000), (11, 86, 1, 128, 3), (11, 96, 0, 136, 1000), (11, 104, 1, 138, 1), (11, 111, 0, 139, 1002)] : List (Nat × Nat × Nat × Nat × Nat)), vm_cf q.1 q.2.1 q.2.2.1 q.2.2.2.1 q.2.2.2.2 := List.forall_mem_cons.mpr ⟨vm_l192, List.forall_mem_cons.mpr ⟨vm_l193, List.forall_mem_cons.mpr ⟨vm_l194, List.forall_mem_cons.mpr ⟨vm_l195, List.forall_mem_cons.mpr ⟨vm_l196, List.forall_mem_cons.mpr ⟨vm_l197, List.forall_mem_cons.mpr ⟨vm_l198, List.forall_mem_cons.mpr ⟨vm_l199, List.forall_mem_cons.mpr ⟨vm_l200, List.forall_mem_cons.mpr ⟨vm_l201, List.forall_mem_cons.mpr ⟨vm_l202, List.forall_mem_cons.mpr ⟨vm_l203, List.forall_mem_cons.mpr ⟨vm_l204, List.forall_mem_cons.mpr ⟨vm_l205, List.forall_mem_cons.mpr ⟨vm_l206, List.forall_mem_cons.mpr ⟨vm_l207, fun _ h => absurd h List.not_mem_nil⟩⟩⟩⟩⟩⟩⟩⟩⟩⟩⟩⟩⟩⟩⟩⟩
theorem vm_cT_13 : ∀ q ∈ ([(11, 115, 0, 137, 1001), (11, 118, 0, 140, 1000), (11, 122, 0, 141, 1000), (11, 125, 0, 142, 1000), (11, 128, 0, 143, 1000), (11, 131, 0, 144, 1000), (11, 134, 0, 146, 1000), (11, 137, 1, 130, 5), (11, 143, 0, 151, 1002), (11, 147, 0, 148, 1001), (11, 150, 1, 149, 1), (11, 155, 0, 153, 1001), (11, 159, 0, 150, 1001), (11, 162, 1, 157, 2), (11, 165, 1, 160, 2), (11, 168, 1, 158, 3)] : List (Nat × Nat × Nat × Nat × Nat)), vm_cf q.1 q.2.1 q.2.2.1 q.2.2.2.1 q.2.2.2.2 := List.forall_mem_cons.mpr ⟨vm_l208, List.forall_mem_cons.mpr ⟨vm_l209, List.forall_mem_cons.mpr ⟨vm_l210, List.forall_mem_cons.mpr ⟨vm_l211, List.forall_mem_cons.mpr ⟨vm_l212, List.forall_mem_cons.mpr ⟨vm_l213, List.forall_mem_cons.mpr ⟨vm_l214, List.forall_mem_cons.mpr ⟨vm_l215, List.forall_mem_cons.mpr ⟨vm_l216, List.forall_mem_cons.mpr ⟨vm_l217, List.forall_mem_cons.mpr ⟨vm_l218, List.forall_mem_cons.mpr ⟨vm_l219, List.forall_mem_cons.mpr ⟨vm_l220, List.forall_mem_cons.mpr ⟨vm_l221, List.forall_mem_cons.mpr ⟨vm_l222, List.forall_mem_cons.mpr ⟨vm_l223, fun _ h => absurd h List.not_mem_nil⟩⟩⟩⟩⟩⟩⟩⟩⟩⟩⟩⟩⟩⟩⟩⟩
theorem vm_cT_14 : ∀ q ∈ ([(11, 172, 1, 161, 3), (11, 176, 0, 165, 1000), (11, 179, 0, 162, 1003), (11, 185, 0, 163, 1001), (11, 189, 0, 164, 1001), (11, 193, 1, 168, 3), (11, 196, 1, 169, 3), (11, 199, 0, 159, 1001), (11, 202, 0, 172, 1003), (11, 206, 0, 178, 1001), (11, 210, 0, 177, 1003), (11, 215, 0, 176, 1001), (11, 219, 0, 179, 1002), (11, 222, 0, 152, 1002), (11, 225, 0, 181, 1003), (11, 228, 0, 182, 1002)] : List (Nat × Nat × Nat × Nat × Nat)), vm_cf q.1 q.2.1 q.2.2.1 q.2.2.2.1 q.2.2.2.2 := List.forall_mem_cons.mpr ⟨vm_l224, List.forall_mem_cons.mpr ⟨vm_l225, List.forall_mem_cons.mpr ⟨vm_l226, List.forall_mem_cons.mpr ⟨vm_l227, List.forall_mem_cons.mpr ⟨vm_l228, List.forall_mem_cons.mpr ⟨vm_l229, List.forall_mem_cons.mpr ⟨vm_l230, List.forall_mem_cons.mpr ⟨vm_l231, List.forall_mem_cons.mpr ⟨vm_l232, List.forall_mem_cons.mpr ⟨vm_l233, List.forall_mem_cons.mpr ⟨vm_l234, List.forall_mem_cons.mpr ⟨vm_l235, List.forall_mem_cons.mpr ⟨vm_l236, List.forall_mem_cons.mpr ⟨vm_l237, List.forall_mem_cons.mpr ⟨vm_l238, List.forall_mem_cons.mpr ⟨vm_l239, fun _ h => absurd h List.not_mem_nil⟩⟩⟩⟩⟩⟩⟩⟩⟩⟩⟩⟩⟩⟩⟩⟩
theorem vm_cT_15 : ∀ q ∈ ([(11, 231, 0, 185, 1001), (11, 234, 0, 184, 1002), (11, 237, 1, 129, 2), (11, 240, 0, 188, 1004), (11, 248, 1, 194, 3), (11, 262, 1, 196, 1), (11, 265, 0, 200, 1000), (12, 9, 2, 92, 0), (12, 12, 2, 127, 0), (12, 13, 0, 93, 901), (12, 17, 0, 134, 1001), (12, 18, 0, 94, 900), (12, 22, 0, 135, 1000), (12, 23, 0, 95, 900), (12, 26, 0, 145, 1000), (12, 27, 0, 96, 900)] : List (Nat × Nat × Nat × Nat × Nat)), vm_cf q.1 q.2.1 q.2.2.1 q.2.2.2.1 q.2.2.2.2 := List.forall_mem_cons.mpr ⟨vm_l240, List.forall_mem_cons.mpr ⟨vm_l241, List.forall_mem_cons.mpr ⟨vm_l242, List.forall_mem_cons.mpr ⟨vm_l243, List.forall_mem_cons.mpr ⟨vm_l244, List.forall_mem_cons.mpr ⟨vm_l245, List.forall_mem_cons.mpr ⟨vm_l246, List.forall_mem_cons.mpr ⟨vm_l247, List.forall_mem_cons.mpr ⟨vm_l248, List.forall_mem_cons.mpr ⟨vm_l249, List.forall_mem_cons.mpr ⟨vm_l250, List.forall_mem_cons.mpr ⟨vm_l251, List.forall_mem_cons.mpr ⟨vm_l252, List.forall_mem_cons.mpr ⟨vm_l253, List.forall_mem_cons.mpr ⟨vm_l254, List.forall_mem_cons.mpr ⟨vm_l255, fun _ h => absurd h List.not_mem_nil⟩⟩⟩⟩⟩⟩⟩⟩⟩⟩⟩⟩⟩⟩⟩⟩
theorem vm_cT_16 : ∀ q ∈ ([(12, 30, 0, 147, 1000), (12, 31, 0, 97, 902), (12, 35, 0, 154, 1002), (12, 36, 0, 98, 901), (12, 39, 0, 155, 1001), (12, 40, 0, 99, 902), (12, 43, 0, 156, 1002), (12, 44, 0, 100, 902), (12, 47, 0, 166, 1002), (12, 48, 0, 101, 901), (12, 51, 0, 167, 1001), (12, 52, 0, 102, 902), (12, 55, 0, 170, 1002), (12, 56, 0, 103, 902), (12, 59, 0, 171, 1002), (12, 60, 0, 104, 903)] : List (Nat × Nat × Nat × Nat × Nat)), vm_cf q.1 q.2.1 q.2.2.1 q.2.2.2.1 q.2.2.2.2 := List.forall_mem_cons.mpr ⟨vm_l256, List.forall_mem_cons.mpr ⟨vm_l257, List.forall_mem_cons.mpr ⟨vm_l258, List.forall_mem_cons.mpr ⟨vm_l259, List.forall_mem_cons.mpr ⟨vm_l260, List.forall_mem_cons.mpr ⟨vm_l261, List.forall_mem_cons.mpr ⟨vm_l262, List.forall_mem_cons.mpr ⟨vm_l263, List.forall_mem_cons.mpr ⟨vm_l264, List.forall_mem_cons.mpr ⟨vm_l265, List.forall_mem_cons.mpr ⟨vm_l266, List.forall_mem_cons.mpr ⟨vm_l267, List.forall_mem_cons.mpr ⟨vm_l268, List.forall_mem_cons.mpr ⟨vm_l269, List.forall_mem_cons.mpr ⟨vm_l270, List.forall_mem_cons.mpr ⟨vm_l271, fun _ h => absurd h List.not_mem_nil⟩⟩⟩⟩⟩⟩⟩⟩⟩⟩⟩⟩⟩⟩⟩⟩
theorem vm_cT_17 : ∀ q ∈ ([(12, 64, 0, 173, 1003), (12, 65, 0, 105, 900), (12, 68, 0, 174, 1000), (12, 69, 0, 106, 901), (12, 72, 0, 175, 1001), (12, 73, 0, 107, 903), (12, 76, 0, 180, 1003), (12, 77, 0, 108, 903), (12, 80, 0, 183, 1003), (12, 81, 0, 109, 903), (12, 84, 0, 186, 1003), (12, 85, 0, 110, 901), (12, 88, 0, 187, 1001), (12, 89, 0, 111, 903), (12, 92, 0, 189, 1003), (12, 93, 0, 112, 901)] : List (Nat × Nat × Nat × Nat × Nat)), vm_cf q.1 q.2.1 q.2.2.1 q.2.2.2.1 q.2.2.2.2 := List.forall_mem_cons.mpr ⟨vm_l272, List.forall_mem_cons.mpr ⟨vm_l273, List.forall_mem_cons.mpr ⟨vm_l274, List.forall_mem_cons.mpr ⟨vm_l275, List.forall_mem_cons.mpr ⟨vm_l276, List.forall_mem_cons.mpr ⟨vm_l277, List.forall_mem_cons.mpr ⟨vm_l278, List.forall_mem_cons.mpr ⟨vm_l279, List.forall_mem_cons.mpr ⟨vm_l280, List.forall_mem_cons.mpr ⟨vm_l281, List.forall_mem_cons.mpr ⟨vm_l282, List.forall_mem_cons.mpr ⟨vm_l283, List.forall_mem_cons.mpr ⟨vm_l284, List.forall_mem_cons.mpr ⟨vm_l285, List.forall_mem_cons.mpr ⟨vm_l286, List.forall_mem_cons.mpr ⟨vm_l287, fun _ h => absurd h List.not_mem_nil⟩⟩⟩⟩⟩⟩⟩⟩⟩⟩⟩⟩⟩⟩⟩⟩
theorem vm_cT_18 : ∀ q ∈ ([(12, 96, 0, 190, 1001), (12, 97, 0, 113, 900), (12, 100, 0, 191, 1000), (12, 101, 0, 114, 901), (12, 104, 0, 192, 1001), (12, 105, 0, 115, 903), (12, 108, 0, 193, 1003), (12, 109, 0, 116, 904), (12, 113, 0, 195, 1004), (12, 114, 0, 117, 903), (12, 117, 0, 197, 1003), (12, 118, 0, 118, 900), (12, 121, 0, 198, 1000), (12, 122, 0, 119, 900), (12, 125, 0, 199, 1000), (12, 126, 0, 120, 901)] : List (Nat × Nat × Nat × Nat × Nat)), vm_cf q.1 q.2.1 q.2.2.1 q.2.2.2.1 q.2.2.2.2 := List.forall_mem_cons.mpr ⟨vm_l288, List.forall_mem_cons.mpr ⟨vm_l289, List.forall_mem_cons.mpr ⟨vm_l290, List.forall_mem_cons.mpr ⟨vm_l291, List.forall_mem_cons.mpr ⟨vm_l292, List.forall_mem_cons.mpr ⟨vm_l293, List.forall_mem_cons.mpr ⟨vm_l294, List.forall_mem_cons.mpr ⟨vm_l295, List.forall_mem_cons.mpr ⟨vm_l296, List.forall_mem_cons.mpr ⟨vm_l297, List.forall_mem_cons.mpr ⟨vm_l298, List.forall_mem_cons.mpr ⟨vm_l299, List.forall_mem_cons.mpr ⟨vm_l300, List.forall_mem_cons.mpr ⟨vm_l301, List.forall_mem_cons.mpr ⟨vm_l302, List.forall_mem_cons.mpr ⟨vm_l303, fun _ h => absurd h List.not_mem_nil⟩⟩⟩⟩⟩⟩⟩⟩⟩⟩⟩⟩⟩⟩⟩⟩
theorem vm_cT_19 : ∀ q ∈ ([(12, 129, 0, 201, 1001)] : List (Nat × Nat × Nat × Nat × Nat)), vm_cf q.1 q.2.1 q.2.2.1 q.2.2.2.1 q.2.2.2.2 := List.forall_mem_cons.mpr ⟨vm_l304, fun _ h => absurd h List.not_mem_nil⟩
set_option maxRecDepth 100000 in
theorem vm_cT_eq : vm_cT = [(0, 3, 5, 0, 0), (0, 13, 2, 54, 1), (0, 24, 0, 57, 500), (0, 31, 0, 62, 501), (0, 35, 0, 56, 500), (0, 39, 0, 59, 501), (0, 43, 0, 76, 701), (0, 49, 3, 126, 3), (0, 53, 0, 58, 501), (0, 56, 0, 55, 500), (0, 60, 0, 4, 0), (0, 63, 0, 60, 502), (0, 67, 0, 7, 2), (0, 70, 0, 8, 3), (0, 73, 0, 10, 1), (0, 76, 0, 9, 3)] ++ ([(0, 79, 1, 30, 2), (0, 84, 0, 13, 2), (0, 87, 0, 78, 702), (0, 90, 0, 80, 701), (0, 93, 1, 31, 3), (0, 97, 1, 203, 2), (0, 102, 0, 14, 0), (0, 105, 0, 15, 2), (0, 109, 0, 16, 2), (0, 112, 0, 11, 2), (0, 115, 0, 12, 2), (1, 3, 5, 0, 0), (1, 11, 2, 54, 1), (1, 27, 0, 61, 501), (1, 32, 0, 7, 2), (1, 36, 0, 60, 502)] ++ ([(1, 40, 0, 5, 0), (1, 44, 0, 80, 701), (1, 50, 0, 27, 103), (1, 54, 0, 59, 501), (1, 56, 1, 29, 2), (1, 59, 1, 31, 3), (1, 65, 0, 28, 102), (1, 68, 0, 62, 501), (2, 9, 1, 32, 1), (2, 15, 1, 203, 2), (2, 21, 1, 202, 2), (3, 3, 5, 0, 0), (3, 11, 2, 54, 1), (3, 27, 0, 5, 0), (3, 37, 1, 203, 2), (3, 45, 0, 57, 500)] ++ ([(3, 48, 0, 7, 2), (3, 51, 0, 58, 501), (3, 54, 0, 61, 501), (3, 57, 0, 36, 204), (3, 61, 0, 59, 501), (3, 64, 0, 37, 204), (3, 67, 0, 60, 502), (3, 71, 0, 80, 701), (3, 76, 1, 31, 3), (3, 82, 1, 30, 2), (4, 3, 5, 0, 0), (4, 13, 2, 54, 1), (4, 36, 0, 57, 500), (4, 39, 0, 61, 501), (4, 42, 0, 41, 304), (4, 46, 0, 55, 500)] ++ ([(4, 50, 0, 59, 501), (4, 54, 0, 42, 301), (4, 57, 0, 79, 702), (4, 63, 0, 60, 502), (4, 67, 0, 58, 501), (5, 3, 5, 0, 0), (5, 13, 2, 54, 1), (5, 22, 4, 70, 0), (5, 29, 2, 0, 1), (5, 39, 0, 4, 0), (5, 43, 0, 77, 700), (5, 47, 0, 71, 700), (5, 50, 0, 1, 0), (5, 55, 0, 55, 500), (5, 58, 0, 48, 400), (5, 61, 0, 52, 400)] ++ ([(5, 64, 0, 49, 401), (5, 68, 0, 73, 701), (5, 72, 0, 50, 401), (5, 75, 0, 59, 501), (5, 79, 0, 74, 701), (5, 82, 0, 3, 1), (5, 85, 0, 57, 500), (5, 86, 1, 53, 1), (5, 89, 0, 58, 501), (5, 92, 0, 51, 400), (6, 3, 5, 0, 0), (6, 9, 1, 202, 2), (6, 25, 0, 57, 500), (6, 28, 0, 55, 500), (6, 31, 0, 59, 501), (6, 35, 0, 58, 501)] ++ ([(7, 1, 5, 0, 0), (7, 7, 1, 202, 2), (7, 21, 2, 0, 1), (7, 28, 0, 65, 600), (7, 35, 0, 69, 601), (7, 39, 0, 2, 1), (7, 43, 1, 204, 2), (8, 3, 5, 0, 0), (8, 11, 2, 54, 1), (8, 33, 0, 57, 500), (8, 36, 0, 62, 501), (8, 40, 0, 56, 500), (8, 44, 0, 59, 501), (8, 48, 0, 58, 501), (8, 51, 3, 126, 3), (8, 55, 0, 55, 500)] ++ ([(8, 59, 0, 76, 701), (8, 63, 3, 125, 1), (8, 66, 0, 78, 702), (8, 70, 1, 204, 2), (8, 75, 0, 82, 701), (8, 78, 0, 79, 702), (8, 81, 0, 84, 702), (8, 85, 0, 61, 501), (8, 88, 0, 60, 502), (8, 92, 0, 86, 700), (9, 3, 5, 0, 0), (9, 11, 2, 54, 1), (9, 29, 0, 7, 2), (9, 33, 0, 81, 701), (9, 43, 0, 57, 500), (9, 46, 0, 58, 501)] ++ ([(9, 49, 0, 61, 501), (9, 55, 0, 90, 803), (9, 59, 0, 59, 501), (9, 61, 0, 91, 804), (9, 65, 1, 30, 2), (9, 70, 0, 60, 502), (9, 74, 0, 79, 702), (10, 1, 5, 0, 0), (10, 11, 2, 54, 1), (10, 23, 4, 70, 0), (10, 30, 2, 0, 1), (10, 42, 2, 63, 2), (10, 54, 2, 43, 1), (10, 63, 2, 33, 1), (10, 70, 2, 87, 1), (10, 77, 2, 38, 1)] ++ ([(10, 84, 2, 25, 1), (10, 91, 6, 0, 0), (10, 97, 7, 0, 0), (10, 101, 0, 58, 501), (10, 104, 0, 121, 900), (10, 108, 0, 57, 500), (10, 111, 1, 126, 3), (10, 115, 0, 56, 500), (10, 118, 0, 55, 500), (10, 121, 0, 47, 400), (10, 124, 0, 4, 0), (10, 127, 0, 76, 701), (10, 131, 1, 125, 1), (10, 134, 0, 78, 702), (10, 138, 0, 5, 0), (10, 141, 0, 80, 701)] ++ ([(10, 145, 0, 6, 1), (10, 148, 0, 7, 2), (10, 151, 0, 11, 2), (10, 155, 0, 67, 601), (10, 159, 0, 12, 2), (10, 163, 0, 14, 0), (10, 166, 0, 22, 0), (10, 169, 0, 123, 902), (10, 172, 0, 15, 2), (10, 175, 0, 16, 2), (10, 178, 0, 10, 1), (10, 181, 0, 17, 2), (10, 184, 0, 18, 3), (10, 187, 0, 19, 3), (10, 191, 0, 68, 601), (10, 195, 0, 64, 600)] ++ ([(10, 196, 0, 20, 1), (10, 199, 0, 34, 203), (10, 203, 0, 35, 201), (10, 206, 0, 88, 803), (10, 207, 0, 89, 801), (10, 210, 0, 39, 302), (10, 213, 0, 40, 301), (10, 214, 0, 81, 701), (10, 217, 0, 122, 904), (10, 221, 0, 83, 702), (10, 225, 0, 85, 703), (10, 229, 0, 26, 105), (10, 233, 0, 2, 1), (10, 236, 1, 124, 2), (10, 239, 0, 21, 1), (10, 242, 0, 24, 0)] ++ ([(10, 245, 0, 65, 600), (10, 246, 0, 66, 600), (10, 247, 0, 75, 700), (10, 250, 0, 23, 0), (10, 253, 0, 46, 400), (10, 256, 0, 44, 400), (10, 259, 0, 72, 701), (10, 261, 0, 45, 400), (11, 1, 5, 0, 0), (11, 61, 1, 131, 2), (11, 65, 1, 132, 4), (11, 69, 0, 133, 1000), (11, 86, 1, 128, 3), (11, 96, 0, 136, 1000), (11, 104, 1, 138, 1), (11, 111, 0, 139, 1002)] ++ ([(11, 115, 0, 137, 1001), (11, 118, 0, 140, 1000), (11, 122, 0, 141, 1000), (11, 125, 0, 142, 1000), (11, 128, 0, 143, 1000), (11, 131, 0, 144, 1000), (11, 134, 0, 146, 1000), (11, 137, 1, 130, 5), (11, 143, 0, 151, 1002), (11, 147, 0, 148, 1001), (11, 150, 1, 149, 1), (11, 155, 0, 153, 1001), (11, 159, 0, 150, 1001), (11, 162, 1, 157, 2), (11, 165, 1, 160, 2), (11, 168, 1, 158, 3)] ++ ([(11, 172, 1, 161, 3), (11, 176, 0, 165, 1000), (11, 179, 0, 162, 1003), (11, 185, 0, 163, 1001), (11, 189, 0, 164, 1001), (11, 193, 1, 168, 3), (11, 196, 1, 169, 3), (11, 199, 0, 159, 1001), (11, 202, 0, 172, 1003), (11, 206, 0, 178, 1001), (11, 210, 0, 177, 1003), (11, 215, 0, 176, 1001), (11, 219, 0, 179, 1002), (11, 222, 0, 152, 1002), (11, 225, 0, 181, 1003), (11, 228, 0, 182, 1002)] ++ ([(11, 231, 0, 185, 1001), (11, 234, 0, 184, 1002), (11, 237, 1, 129, 2), (11, 240, 0, 188, 1004), (11, 248, 1, 194, 3), (11, 262, 1, 196, 1), (11, 265, 0, 200, 1000), (12, 9, 2, 92, 0), (12, 12, 2, 127, 0), (12, 13, 0, 93, 901), (12, 17, 0, 134, 1001), (12, 18, 0, 94, 900), (12, 22, 0, 135, 1000), (12, 23, 0, 95, 900), (12, 26, 0, 145, 1000), (12, 27, 0, 96, 900)] ++ ([(12, 30, 0, 147, 1000), (12, 31, 0, 97, 902), (12, 35, 0, 154, 1002), (12, 36, 0, 98, 901), (12, 39, 0, 155, 1001), (12, 40, 0, 99, 902), (12, 43, 0, 156, 1002), (12, 44, 0, 100, 902), (12, 47, 0, 166, 1002), (12, 48, 0, 101, 901), (12, 51, 0, 167, 1001), (12, 52, 0, 102, 902), (12, 55, 0, 170, 1002), (12, 56, 0, 103, 902), (12, 59, 0, 171, 1002), (12, 60, 0, 104, 903)] ++ ([(12, 64, 0, 173, 1003), (12, 65, 0, 105, 900), (12, 68, 0, 174, 1000), (12, 69, 0, 106, 901), (12, 72, 0, 175, 1001), (12, 73, 0, 107, 903), (12, 76, 0, 180, 1003), (12, 77, 0, 108, 903), (12, 80, 0, 183, 1003), (12, 81, 0, 109, 903), (12, 84, 0, 186, 1003), (12, 85, 0, 110, 901), (12, 88, 0, 187, 1001), (12, 89, 0, 111, 903), (12, 92, 0, 189, 1003), (12, 93, 0, 112, 901)] ++ ([(12, 96, 0, 190, 1001), (12, 97, 0, 113, 900), (12, 100, 0, 191, 1000), (12, 101, 0, 114, 901), (12, 104, 0, 192, 1001), (12, 105, 0, 115, 903), (12, 108, 0, 193, 1003), (12, 109, 0, 116, 904), (12, 113, 0, 195, 1004), (12, 114, 0, 117, 903), (12, 117, 0, 197, 1003), (12, 118, 0, 118, 900), (12, 121, 0, 198, 1000), (12, 122, 0, 119, 900), (12, 125, 0, 199, 1000), (12, 126, 0, 120, 901)] ++ ([(12, 129, 0, 201, 1001)]))))))))))))))))))) := rfl
theorem vm_cT_ok : ∀ q ∈ vm_cT, vm_cf q.1 q.2.1 q.2.2.1 q.2.2.2.1 q.2.2.2.2 := by
  rw [vm_cT_eq]
  exact List.forall_mem_append.mpr ⟨vm_cT_0, List.forall_mem_append.mpr ⟨vm_cT_1, List.forall_mem_append.mpr ⟨vm_cT_2, List.forall_mem_append.mpr ⟨vm_cT_3, List.forall_mem_append.mpr ⟨vm_cT_4, List.forall_mem_append.mpr ⟨vm_cT_5, List.forall_mem_append.mpr ⟨vm_cT_6, List.forall_mem_append.mpr ⟨vm_cT_7, List.forall_mem_append.mpr ⟨vm_cT_8, List.forall_mem_append.mpr ⟨vm_cT_9, List.forall_mem_append.mpr ⟨vm_cT_10, List.forall_mem_append.mpr ⟨vm_cT_11, List.forall_mem_append.mpr ⟨vm_cT_12, List.forall_mem_append.mpr ⟨vm_cT_13, List.forall_mem_append.mpr ⟨vm_cT_14, List.forall_mem_append.mpr ⟨vm_cT_15, List.forall_mem_append.mpr ⟨vm_cT_16, List.forall_mem_append.mpr ⟨vm_cT_17, List.forall_mem_append.mpr ⟨vm_cT_18, vm_cT_19⟩⟩⟩⟩⟩⟩⟩⟩⟩⟩⟩⟩⟩⟩⟩⟩⟩⟩⟩
def vm_nf (o i a : Nat) : Prop := ∃ (own C : String) (T : u_T) (N : Nat), vm_nm[o]? = some own ∧ vwCl[a]? = some (C, T, N) ∧ Cond.classLink own i C ∈ vm_G ∧ Cond.instantiable C N ∈ vm_G ∧ Cond.initialized C ∈ vm_G
theorem vm_n0 : vm_nf 0 9 5 := ⟨RX0, RX6, TX6, 2, rfl, rfl, vm_r4 _ (List.mem_of_getElem? (i := 2) rfl), vm_r1 _ (List.mem_of_getElem? (i := 13) rfl), vm_r1 _ (List.mem_of_getElem? (i := 14) rfl)⟩
theorem vm_n1 : vm_nf 1 9 5 := ⟨RX1, RX6, TX6, 2, rfl, rfl, vm_r6 _ (List.mem_of_getElem? (i := 13) rfl), vm_r1 _ (List.mem_of_getElem? (i := 13) rfl), vm_r1 _ (List.mem_of_getElem? (i := 14) rfl)⟩
theorem vm_n2 : vm_nf 3 9 5 := ⟨RX3, RX6, TX6, 2, rfl, rfl, vm_r5 _ (List.mem_of_getElem? (i := 7) rfl), vm_r1 _ (List.mem_of_getElem? (i := 13) rfl), vm_r1 _ (List.mem_of_getElem? (i := 14) rfl)⟩
theorem vm_n3 : vm_nf 4 9 5 := ⟨RX4, RX6, TX6, 2, rfl, rfl, vm_r6 _ (List.mem_of_getElem? (i := 1) rfl), vm_r1 _ (List.mem_of_getElem? (i := 13) rfl), vm_r1 _ (List.mem_of_getElem? (i := 14) rfl)⟩
theorem vm_n4 : vm_nf 5 9 5 := ⟨RX5, RX6, TX6, 2, rfl, rfl, vm_r4 _ (List.mem_of_getElem? (i := 18) rfl), vm_r1 _ (List.mem_of_getElem? (i := 13) rfl), vm_r1 _ (List.mem_of_getElem? (i := 14) rfl)⟩
theorem vm_n5 : vm_nf 5 20 7 := ⟨RX5, RX8, TX8, 5, rfl, rfl, vm_r4 _ (List.mem_of_getElem? (i := 20) rfl), vm_r1 _ (List.mem_of_getElem? (i := 18) rfl), vm_r1 _ (List.mem_of_getElem? (i := 19) rfl)⟩
theorem vm_n6 : vm_nf 5 27 0 := ⟨RX5, RX0, TX0, 3, rfl, rfl, vm_r4 _ (List.mem_of_getElem? (i := 22) rfl), vm_r1 _ (List.mem_of_getElem? (i := 22) rfl), vm_r1 _ (List.mem_of_getElem? (i := 23) rfl)⟩
theorem vm_n7 : vm_nf 7 13 0 := ⟨RX7, RX0, TX0, 3, rfl, rfl, vm_r4 _ (List.mem_of_getElem? (i := 11) rfl), vm_r1 _ (List.mem_of_getElem? (i := 22) rfl), vm_r1 _ (List.mem_of_getElem? (i := 23) rfl)⟩
theorem vm_n8 : vm_nf 8 9 5 := ⟨RX8, RX6, TX6, 2, rfl, rfl, vm_r3 _ (List.mem_of_getElem? (i := 16) rfl), vm_r1 _ (List.mem_of_getElem? (i := 13) rfl), vm_r1 _ (List.mem_of_getElem? (i := 14) rfl)⟩
theorem vm_n9 : vm_nf 9 9 5 := ⟨RX9, RX6, TX6, 2, rfl, rfl, vm_r5 _ (List.mem_of_getElem? (i := 16) rfl), vm_r1 _ (List.mem_of_getElem? (i := 13) rfl), vm_r1 _ (List.mem_of_getElem? (i := 14) rfl)⟩
theorem vm_n10 : vm_nf 10 7 5 := ⟨RX10, RX6, TX6, 2, rfl, rfl, vm_r1 _ (List.mem_of_getElem? (i := 12) rfl), vm_r1 _ (List.mem_of_getElem? (i := 13) rfl), vm_r1 _ (List.mem_of_getElem? (i := 14) rfl)⟩
theorem vm_n11 : vm_nf 10 21 7 := ⟨RX10, RX8, TX8, 5, rfl, rfl, vm_r1 _ (List.mem_of_getElem? (i := 17) rfl), vm_r1 _ (List.mem_of_getElem? (i := 18) rfl), vm_r1 _ (List.mem_of_getElem? (i := 19) rfl)⟩
theorem vm_n12 : vm_nf 10 28 0 := ⟨RX10, RX0, TX0, 3, rfl, rfl, vm_r1 _ (List.mem_of_getElem? (i := 21) rfl), vm_r1 _ (List.mem_of_getElem? (i := 22) rfl), vm_r1 _ (List.mem_of_getElem? (i := 23) rfl)⟩
theorem vm_n13 : vm_nf 10 40 6 := ⟨RX10, RX7, TX7, 3, rfl, rfl, vm_r2 _ (List.mem_of_getElem? (i := 2) rfl), vm_r2 _ (List.mem_of_getElem? (i := 3) rfl), vm_r2 _ (List.mem_of_getElem? (i := 4) rfl)⟩
theorem vm_n14 : vm_nf 10 52 4 := ⟨RX10, RX5, TX5, 5, rfl, rfl, vm_r2 _ (List.mem_of_getElem? (i := 7) rfl), vm_r2 _ (List.mem_of_getElem? (i := 8) rfl), vm_r2 _ (List.mem_of_getElem? (i := 9) rfl)⟩
theorem vm_n15 : vm_nf 10 61 2 := ⟨RX10, RX3, TX3, 5, rfl, rfl, vm_r2 _ (List.mem_of_getElem? (i := 11) rfl), vm_r2 _ (List.mem_of_getElem? (i := 12) rfl), vm_r2 _ (List.mem_of_getElem? (i := 13) rfl)⟩
theorem vm_n16 : vm_nf 10 68 8 := ⟨RX10, RX9, TX9, 5, rfl, rfl, vm_r2 _ (List.mem_of_getElem? (i := 15) rfl), vm_r2 _ (List.mem_of_getElem? (i := 16) rfl), vm_r2 _ (List.mem_of_getElem? (i := 17) rfl)⟩
theorem vm_n17 : vm_nf 10 75 3 := ⟨RX10, RX4, TX4, 6, rfl, rfl, vm_r2 _ (List.mem_of_getElem? (i := 19) rfl), vm_r2 _ (List.mem_of_getElem? (i := 20) rfl), vm_r2 _ (List.mem_of_getElem? (i := 21) rfl)⟩
theorem vm_n18 : vm_nf 10 82 1 := ⟨RX10, RX1, TX1, 3, rfl, rfl, vm_r2 _ (List.mem_of_getElem? (i := 23) rfl), vm_r3 _ (List.mem_of_getElem? (i := 0) rfl), vm_r3 _ (List.mem_of_getElem? (i := 1) rfl)⟩
theorem vm_n19 : vm_nf 12 7 9 := ⟨RL, RX10, TX10, 12, rfl, rfl, vm_r1 _ (List.mem_of_getElem? (i := 0) rfl), vm_r1 _ (List.mem_of_getElem? (i := 1) rfl), vm_r1 _ (List.mem_of_getElem? (i := 2) rfl)⟩
theorem vm_n20 : vm_nf 12 10 10 := ⟨RL, RX11, TX11, 23, rfl, rfl, vm_r1 _ (List.mem_of_getElem? (i := 3) rfl), vm_r1 _ (List.mem_of_getElem? (i := 4) rfl), vm_r1 _ (List.mem_of_getElem? (i := 5) rfl)⟩
set_option maxRecDepth 100000 in
def vm_nT : List (Nat × Nat × Nat) := [(0, 9, 5), (1, 9, 5), (3, 9, 5), (4, 9, 5), (5, 9, 5), (5, 20, 7), (5, 27, 0), (7, 13, 0), (8, 9, 5), (9, 9, 5), (10, 7, 5), (10, 21, 7), (10, 28, 0), (10, 40, 6), (10, 52, 4), (10, 61, 2), (10, 68, 8), (10, 75, 3), (10, 82, 1), (12, 7, 9), (12, 10, 10)]
theorem vm_nT_0 : ∀ q ∈ ([(0, 9, 5), (1, 9, 5), (3, 9, 5), (4, 9, 5), (5, 9, 5), (5, 20, 7), (5, 27, 0), (7, 13, 0), (8, 9, 5), (9, 9, 5), (10, 7, 5), (10, 21, 7), (10, 28, 0), (10, 40, 6), (10, 52, 4), (10, 61, 2)] : List (Nat × Nat × Nat)), vm_nf q.1 q.2.1 q.2.2 := List.forall_mem_cons.mpr ⟨vm_n0, List.forall_mem_cons.mpr ⟨vm_n1, List.forall_mem_cons.mpr ⟨vm_n2, List.forall_mem_cons.mpr ⟨vm_n3, List.forall_mem_cons.mpr ⟨vm_n4, List.forall_mem_cons.mpr ⟨vm_n5, List.forall_mem_cons.mpr ⟨vm_n6, List.forall_mem_cons.mpr ⟨vm_n7, List.forall_mem_cons.mpr ⟨vm_n8, List.forall_mem_cons.mpr ⟨vm_n9, List.forall_mem_cons.mpr ⟨vm_n10, List.forall_mem_cons.mpr ⟨vm_n11, List.forall_mem_cons.mpr ⟨vm_n12, List.forall_mem_cons.mpr ⟨vm_n13, List.forall_mem_cons.mpr ⟨vm_n14, List.forall_mem_cons.mpr ⟨vm_n15, fun _ h => absurd h List.not_mem_nil⟩⟩⟩⟩⟩⟩⟩⟩⟩⟩⟩⟩⟩⟩⟩⟩
theorem vm_nT_1 : ∀ q ∈ ([(10, 68, 8), (10, 75, 3), (10, 82, 1), (12, 7, 9), (12, 10, 10)] : List (Nat × Nat × Nat)), vm_nf q.1 q.2.1 q.2.2 := List.forall_mem_cons.mpr ⟨vm_n16, List.forall_mem_cons.mpr ⟨vm_n17, List.forall_mem_cons.mpr ⟨vm_n18, List.forall_mem_cons.mpr ⟨vm_n19, List.forall_mem_cons.mpr ⟨vm_n20, fun _ h => absurd h List.not_mem_nil⟩⟩⟩⟩⟩
set_option maxRecDepth 100000 in
theorem vm_nT_eq : vm_nT = [(0, 9, 5), (1, 9, 5), (3, 9, 5), (4, 9, 5), (5, 9, 5), (5, 20, 7), (5, 27, 0), (7, 13, 0), (8, 9, 5), (9, 9, 5), (10, 7, 5), (10, 21, 7), (10, 28, 0), (10, 40, 6), (10, 52, 4), (10, 61, 2)] ++ ([(10, 68, 8), (10, 75, 3), (10, 82, 1), (12, 7, 9), (12, 10, 10)]) := rfl
theorem vm_nT_ok : ∀ q ∈ vm_nT, vm_nf q.1 q.2.1 q.2.2 := by
  rw [vm_nT_eq]
  exact List.forall_mem_append.mpr ⟨vm_nT_0, vm_nT_1⟩
def vm_KI : List Int32 := [(1000000)]
def vm_KL : List Int64 := [(7919), (6151), (65521), (32), (126), (48), (57), (3), (99), (24), (6), (8), (10), (9999), (60)]
def vm_if (o i a : Nat) : Prop := ∃ (own : String) (v : Int32), vm_nm[o]? = some own ∧ vm_KI[a]? = some v ∧ Cond.constant own i v ∈ vm_G
theorem vm_i0 : vm_if 11 209 0 := ⟨RX11, (1000000), rfl, rfl, vm_r32 _ (List.mem_of_getElem? (i := 20) rfl)⟩
set_option maxRecDepth 100000 in
def vm_iT : List (Nat × Nat × Nat) := [(11, 209, 0)]
theorem vm_iT_0 : ∀ q ∈ ([(11, 209, 0)] : List (Nat × Nat × Nat)), vm_if q.1 q.2.1 q.2.2 := List.forall_mem_cons.mpr ⟨vm_i0, fun _ h => absurd h List.not_mem_nil⟩
set_option maxRecDepth 100000 in
theorem vm_iT_eq : vm_iT = [(11, 209, 0)] := rfl
theorem vm_iT_ok : ∀ q ∈ vm_iT, vm_if q.1 q.2.1 q.2.2 := by
  rw [vm_iT_eq]
  exact vm_iT_0
def vm_lf (o i a : Nat) : Prop := ∃ (own : String) (v : Int64), vm_nm[o]? = some own ∧ vm_KL[a]? = some v ∧ Cond.constantLong own i v ∈ vm_G
theorem vm_j0 : vm_lf 10 264 0 := ⟨RX10, (7919), rfl, rfl, vm_r42 _ (List.mem_of_getElem? (i := 16) rfl)⟩
theorem vm_j1 : vm_lf 10 266 1 := ⟨RX10, (6151), rfl, rfl, vm_r42 _ (List.mem_of_getElem? (i := 17) rfl)⟩
theorem vm_j2 : vm_lf 10 268 2 := ⟨RX10, (65521), rfl, rfl, vm_r42 _ (List.mem_of_getElem? (i := 18) rfl)⟩
theorem vm_j3 : vm_lf 11 82 3 := ⟨RX11, (32), rfl, rfl, vm_r16 _ (List.mem_of_getElem? (i := 7) rfl)⟩
theorem vm_j4 : vm_lf 11 84 4 := ⟨RX11, (126), rfl, rfl, vm_r16 _ (List.mem_of_getElem? (i := 8) rfl)⟩
theorem vm_j5 : vm_lf 11 100 5 := ⟨RX11, (48), rfl, rfl, vm_r18 _ (List.mem_of_getElem? (i := 1) rfl)⟩
theorem vm_j6 : vm_lf 11 102 6 := ⟨RX11, (57), rfl, rfl, vm_r18 _ (List.mem_of_getElem? (i := 2) rfl)⟩
theorem vm_j7 : vm_lf 11 141 7 := ⟨RX11, (3), rfl, rfl, vm_r20 _ (List.mem_of_getElem? (i := 11) rfl)⟩
theorem vm_j8 : vm_lf 11 153 8 := ⟨RX11, (99), rfl, rfl, vm_r21 _ (List.mem_of_getElem? (i := 12) rfl)⟩
theorem vm_j9 : vm_lf 11 183 9 := ⟨RX11, (24), rfl, rfl, vm_r26 _ (List.mem_of_getElem? (i := 19) rfl)⟩
theorem vm_j10 : vm_lf 11 213 10 := ⟨RX11, (6), rfl, rfl, vm_r32 _ (List.mem_of_getElem? (i := 19) rfl)⟩
theorem vm_j11 : vm_lf 11 244 11 := ⟨RX11, (8), rfl, rfl, vm_r40 _ (List.mem_of_getElem? (i := 21) rfl)⟩
theorem vm_j12 : vm_lf 11 246 12 := ⟨RX11, (10), rfl, rfl, vm_r42 _ (List.mem_of_getElem? (i := 5) rfl)⟩
theorem vm_j13 : vm_lf 11 252 13 := ⟨RX11, (9999), rfl, rfl, vm_r43 _ (List.mem_of_getElem? (i := 12) rfl)⟩
theorem vm_j14 : vm_lf 11 254 14 := ⟨RX11, (60), rfl, rfl, vm_r43 _ (List.mem_of_getElem? (i := 13) rfl)⟩
theorem vm_j15 : vm_lf 11 256 0 := ⟨RX11, (7919), rfl, rfl, vm_r43 _ (List.mem_of_getElem? (i := 14) rfl)⟩
theorem vm_j16 : vm_lf 11 258 1 := ⟨RX11, (6151), rfl, rfl, vm_r43 _ (List.mem_of_getElem? (i := 15) rfl)⟩
theorem vm_j17 : vm_lf 11 260 2 := ⟨RX11, (65521), rfl, rfl, vm_r43 _ (List.mem_of_getElem? (i := 16) rfl)⟩
set_option maxRecDepth 100000 in
def vm_lT : List (Nat × Nat × Nat) := [(10, 264, 0), (10, 266, 1), (10, 268, 2), (11, 82, 3), (11, 84, 4), (11, 100, 5), (11, 102, 6), (11, 141, 7), (11, 153, 8), (11, 183, 9), (11, 213, 10), (11, 244, 11), (11, 246, 12), (11, 252, 13), (11, 254, 14), (11, 256, 0), (11, 258, 1), (11, 260, 2)]
theorem vm_lT_0 : ∀ q ∈ ([(10, 264, 0), (10, 266, 1), (10, 268, 2), (11, 82, 3), (11, 84, 4), (11, 100, 5), (11, 102, 6), (11, 141, 7), (11, 153, 8), (11, 183, 9), (11, 213, 10), (11, 244, 11), (11, 246, 12), (11, 252, 13), (11, 254, 14), (11, 256, 0)] : List (Nat × Nat × Nat)), vm_lf q.1 q.2.1 q.2.2 := List.forall_mem_cons.mpr ⟨vm_j0, List.forall_mem_cons.mpr ⟨vm_j1, List.forall_mem_cons.mpr ⟨vm_j2, List.forall_mem_cons.mpr ⟨vm_j3, List.forall_mem_cons.mpr ⟨vm_j4, List.forall_mem_cons.mpr ⟨vm_j5, List.forall_mem_cons.mpr ⟨vm_j6, List.forall_mem_cons.mpr ⟨vm_j7, List.forall_mem_cons.mpr ⟨vm_j8, List.forall_mem_cons.mpr ⟨vm_j9, List.forall_mem_cons.mpr ⟨vm_j10, List.forall_mem_cons.mpr ⟨vm_j11, List.forall_mem_cons.mpr ⟨vm_j12, List.forall_mem_cons.mpr ⟨vm_j13, List.forall_mem_cons.mpr ⟨vm_j14, List.forall_mem_cons.mpr ⟨vm_j15, fun _ h => absurd h List.not_mem_nil⟩⟩⟩⟩⟩⟩⟩⟩⟩⟩⟩⟩⟩⟩⟩⟩
theorem vm_lT_1 : ∀ q ∈ ([(11, 258, 1), (11, 260, 2)] : List (Nat × Nat × Nat)), vm_lf q.1 q.2.1 q.2.2 := List.forall_mem_cons.mpr ⟨vm_j16, List.forall_mem_cons.mpr ⟨vm_j17, fun _ h => absurd h List.not_mem_nil⟩⟩
set_option maxRecDepth 100000 in
theorem vm_lT_eq : vm_lT = [(10, 264, 0), (10, 266, 1), (10, 268, 2), (11, 82, 3), (11, 84, 4), (11, 100, 5), (11, 102, 6), (11, 141, 7), (11, 153, 8), (11, 183, 9), (11, 213, 10), (11, 244, 11), (11, 246, 12), (11, 252, 13), (11, 254, 14), (11, 256, 0)] ++ ([(11, 258, 1), (11, 260, 2)]) := rfl
theorem vm_lT_ok : ∀ q ∈ vm_lT, vm_lf q.1 q.2.1 q.2.2 := by
  rw [vm_lT_eq]
  exact List.forall_mem_append.mpr ⟨vm_lT_0, vm_lT_1⟩
def vm_len (i : Instr) (n : Nat) : Nat := match i with
  | .tableswitch .. => n
  | .lookupswitch .. => n
  | .bipush _ => 2
  | .newarray _ => 2
  | .iload _ => 2
  | .istore _ => 2
  | .aload _ => 2
  | .astore _ => 2
  | .lload _ => 2
  | .lstore _ => 2
  | .ldc _ => 2
  | .sipush _ => 3
  | .ldc2_w _ => 3
  | .iinc _ _ => 3
  | .goto _ => 3
  | .ifCond _ _ => 3
  | .if_icmp _ _ => 3
  | .ifnull _ => 3
  | .ifnonnull _ => 3
  | .getfield _ => 3
  | .putfield _ => 3
  | .invokevirtual _ => 3
  | .invokestatic _ => 3
  | .invokespecial _ => 3
  | .new _ => 3
  | .anewarray _ => 3
  | _ => 1
def vm_chk (o : Nat) (q : vm_I) : Bool := (q.2.2.1 == vm_len q.2.1 q.2.2.1) && (match q.2.1 with
  | .getfield x => decide ((o, x, q.2.2.2.1, q.2.2.2.2.1) ∈ vm_fT)
  | .putfield x => decide ((o, x, q.2.2.2.1, q.2.2.2.2.1) ∈ vm_fT)
  | .invokevirtual x => decide ((o, x, q.2.2.2.1, q.2.2.2.2.1, q.2.2.2.2.2) ∈ vm_cT) && (q.2.2.2.1 == 0 || q.2.2.2.1 == 6 || q.2.2.2.1 == 7)
  | .invokestatic x => decide ((o, x, q.2.2.2.1, q.2.2.2.2.1, q.2.2.2.2.2) ∈ vm_cT) && (q.2.2.2.1 == 1 || q.2.2.2.1 == 3)
  | .invokespecial x => decide ((o, x, q.2.2.2.1, q.2.2.2.2.1, q.2.2.2.2.2) ∈ vm_cT) && (q.2.2.2.1 == 2 || q.2.2.2.1 == 4 || q.2.2.2.1 == 5)
  | .new x => decide ((o, x, q.2.2.2.1) ∈ vm_nT)
  | .anewarray x => decide ((o, x, q.2.2.2.1) ∈ vm_nT) && (q.2.2.2.1 == 0)
  | .newarray t => match t with
    | .int => true
    | _ => false
  | .ldc x => if q.2.2.2.1 = 99 then (o == 10 && x == 89) else decide ((o, x, q.2.2.2.1) ∈ vm_iT)
  | .ldc2_w x => decide ((o, x, q.2.2.2.1) ∈ vm_lT)
  | _ => true)
/-- a method of the table: its own class, its bytes, its checks -/
def vm_ok (r : vm_M) : Prop := ∃ o, vm_nm[o]? = some r.1 ∧ (∀ q ∈ r.2.2.2.2.2, decode r.2.2.1 q.1 = .ok (q.2.1, q.2.2.1)) ∧ (∀ q ∈ r.2.2.2.2.2, vm_chk o q = true) ∧ r.2.2.2.1 ≤ 20 ∧ r.2.1.cls = r.1
/-- a method that may be called -/
def vm_mf (r : vm_M) : Prop := plainFor r.2.1 = true ∧ Cond.code r.2.1 r.2.2.1 r.2.2.2.1 r.2.2.2.2.1 ∈ vm_G ∧ Cond.initialized r.2.1.cls ∈ vm_G ∧ r.2.1.cls ≠ "java/lang/invoke/MethodHandle" ∧ r.2.1.cls ≠ "java/lang/invoke/VarHandle"
set_option maxRecDepth 100000 in
theorem vm_c0 : ∀ q ∈ vm_k0, vm_chk 0 q = true := by decide +kernel
theorem vm_o0 : vm_ok vm_m0 := ⟨0, rfl, vm_d0, vm_c0, by decide, rfl⟩
theorem vm_p0 : vm_mf vm_m0 := ⟨by decide +kernel, vm_r4 _ (List.mem_of_getElem? (i := 0) rfl), vm_r1 _ (List.mem_of_getElem? (i := 23) rfl), by decide +kernel, by decide +kernel⟩
set_option maxRecDepth 100000 in
theorem vm_c1 : ∀ q ∈ vm_k1, vm_chk 0 q = true := by decide +kernel
theorem vm_o1 : vm_ok vm_m1 := ⟨0, rfl, vm_d1, vm_c1, by decide, rfl⟩
theorem vm_p1 : vm_mf vm_m1 := ⟨by decide +kernel, vm_r9 _ (List.mem_of_getElem? (i := 21) rfl), vm_r1 _ (List.mem_of_getElem? (i := 23) rfl), by decide +kernel, by decide +kernel⟩
set_option maxRecDepth 100000 in
theorem vm_c2 : ∀ q ∈ vm_k2, vm_chk 0 q = true := by decide +kernel
theorem vm_o2 : vm_ok vm_m2 := ⟨0, rfl, vm_d2, vm_c2, by decide, rfl⟩
theorem vm_p2 : vm_mf vm_m2 := ⟨by decide +kernel, vm_r14 _ (List.mem_of_getElem? (i := 2) rfl), vm_r1 _ (List.mem_of_getElem? (i := 23) rfl), by decide +kernel, by decide +kernel⟩
set_option maxRecDepth 100000 in
theorem vm_c3 : ∀ q ∈ vm_k3, vm_chk 0 q = true := by decide +kernel
theorem vm_o3 : vm_ok vm_m3 := ⟨0, rfl, vm_d3, vm_c3, by decide, rfl⟩
theorem vm_p3 : vm_mf vm_m3 := ⟨by decide +kernel, vm_r12 _ (List.mem_of_getElem? (i := 4) rfl), vm_r1 _ (List.mem_of_getElem? (i := 23) rfl), by decide +kernel, by decide +kernel⟩
set_option maxRecDepth 100000 in
theorem vm_c4 : ∀ q ∈ vm_k4, vm_chk 0 q = true := by decide +kernel
theorem vm_o4 : vm_ok vm_m4 := ⟨0, rfl, vm_d4, vm_c4, by decide, rfl⟩
theorem vm_p4 : vm_mf vm_m4 := ⟨by decide +kernel, vm_r12 _ (List.mem_of_getElem? (i := 19) rfl), vm_r1 _ (List.mem_of_getElem? (i := 23) rfl), by decide +kernel, by decide +kernel⟩
set_option maxRecDepth 100000 in
theorem vm_c5 : ∀ q ∈ vm_k5, vm_chk 0 q = true := by decide +kernel
theorem vm_o5 : vm_ok vm_m5 := ⟨0, rfl, vm_d5, vm_c5, by decide, rfl⟩
theorem vm_p5 : vm_mf vm_m5 := ⟨by decide +kernel, vm_r20 _ (List.mem_of_getElem? (i := 23) rfl), vm_r1 _ (List.mem_of_getElem? (i := 23) rfl), by decide +kernel, by decide +kernel⟩
set_option maxRecDepth 100000 in
theorem vm_c6 : ∀ q ∈ vm_k6, vm_chk 0 q = true := by decide +kernel
theorem vm_o6 : vm_ok vm_m6 := ⟨0, rfl, vm_d6, vm_c6, by decide, rfl⟩
theorem vm_p6 : vm_mf vm_m6 := ⟨by decide +kernel, vm_r22 _ (List.mem_of_getElem? (i := 0) rfl), vm_r1 _ (List.mem_of_getElem? (i := 23) rfl), by decide +kernel, by decide +kernel⟩
set_option maxRecDepth 100000 in
theorem vm_c7 : ∀ q ∈ vm_k7, vm_chk 0 q = true := by decide +kernel
theorem vm_o7 : vm_ok vm_m7 := ⟨0, rfl, vm_d7, vm_c7, by decide, rfl⟩
theorem vm_p7 : vm_mf vm_m7 := ⟨by decide +kernel, vm_r22 _ (List.mem_of_getElem? (i := 5) rfl), vm_r1 _ (List.mem_of_getElem? (i := 23) rfl), by decide +kernel, by decide +kernel⟩
set_option maxRecDepth 100000 in
theorem vm_c8 : ∀ q ∈ vm_k8, vm_chk 0 q = true := by decide +kernel
theorem vm_o8 : vm_ok vm_m8 := ⟨0, rfl, vm_d8, vm_c8, by decide, rfl⟩
theorem vm_p8 : vm_mf vm_m8 := ⟨by decide +kernel, vm_r24 _ (List.mem_of_getElem? (i := 5) rfl), vm_r1 _ (List.mem_of_getElem? (i := 23) rfl), by decide +kernel, by decide +kernel⟩
set_option maxRecDepth 100000 in
theorem vm_c9 : ∀ q ∈ vm_k9, vm_chk 0 q = true := by decide +kernel
theorem vm_o9 : vm_ok vm_m9 := ⟨0, rfl, vm_d9, vm_c9, by decide, rfl⟩
theorem vm_p9 : vm_mf vm_m9 := ⟨by decide +kernel, vm_r24 _ (List.mem_of_getElem? (i := 1) rfl), vm_r1 _ (List.mem_of_getElem? (i := 23) rfl), by decide +kernel, by decide +kernel⟩
set_option maxRecDepth 100000 in
theorem vm_c10 : ∀ q ∈ vm_k10, vm_chk 0 q = true := by decide +kernel
theorem vm_o10 : vm_ok vm_m10 := ⟨0, rfl, vm_d10, vm_c10, by decide, rfl⟩
theorem vm_p10 : vm_mf vm_m10 := ⟨by decide +kernel, vm_r23 _ (List.mem_of_getElem? (i := 1) rfl), vm_r1 _ (List.mem_of_getElem? (i := 23) rfl), by decide +kernel, by decide +kernel⟩
set_option maxRecDepth 100000 in
theorem vm_c11 : ∀ q ∈ vm_k11, vm_chk 0 q = true := by decide +kernel
theorem vm_o11 : vm_ok vm_m11 := ⟨0, rfl, vm_d11, vm_c11, by decide, rfl⟩
theorem vm_p11 : vm_mf vm_m11 := ⟨by decide +kernel, vm_r22 _ (List.mem_of_getElem? (i := 21) rfl), vm_r1 _ (List.mem_of_getElem? (i := 23) rfl), by decide +kernel, by decide +kernel⟩
set_option maxRecDepth 100000 in
theorem vm_c12 : ∀ q ∈ vm_k12, vm_chk 0 q = true := by decide +kernel
theorem vm_o12 : vm_ok vm_m12 := ⟨0, rfl, vm_d12, vm_c12, by decide, rfl⟩
theorem vm_p12 : vm_mf vm_m12 := ⟨by decide +kernel, vm_r23 _ (List.mem_of_getElem? (i := 21) rfl), vm_r1 _ (List.mem_of_getElem? (i := 23) rfl), by decide +kernel, by decide +kernel⟩
set_option maxRecDepth 100000 in
theorem vm_c13 : ∀ q ∈ vm_k13, vm_chk 0 q = true := by decide +kernel
theorem vm_o13 : vm_ok vm_m13 := ⟨0, rfl, vm_d13, vm_c13, by decide, rfl⟩
theorem vm_p13 : vm_mf vm_m13 := ⟨by decide +kernel, vm_r25 _ (List.mem_of_getElem? (i := 0) rfl), vm_r1 _ (List.mem_of_getElem? (i := 23) rfl), by decide +kernel, by decide +kernel⟩
set_option maxRecDepth 100000 in
theorem vm_c14 : ∀ q ∈ vm_k14, vm_chk 0 q = true := by decide +kernel
theorem vm_o14 : vm_ok vm_m14 := ⟨0, rfl, vm_d14, vm_c14, by decide, rfl⟩
theorem vm_p14 : vm_mf vm_m14 := ⟨by decide +kernel, vm_r26 _ (List.mem_of_getElem? (i := 6) rfl), vm_r1 _ (List.mem_of_getElem? (i := 23) rfl), by decide +kernel, by decide +kernel⟩
set_option maxRecDepth 100000 in
theorem vm_c15 : ∀ q ∈ vm_k15, vm_chk 0 q = true := by decide +kernel
theorem vm_o15 : vm_ok vm_m15 := ⟨0, rfl, vm_d15, vm_c15, by decide, rfl⟩
theorem vm_p15 : vm_mf vm_m15 := ⟨by decide +kernel, vm_r27 _ (List.mem_of_getElem? (i := 18) rfl), vm_r1 _ (List.mem_of_getElem? (i := 23) rfl), by decide +kernel, by decide +kernel⟩
set_option maxRecDepth 100000 in
theorem vm_c16 : ∀ q ∈ vm_k16, vm_chk 0 q = true := by decide +kernel
theorem vm_o16 : vm_ok vm_m16 := ⟨0, rfl, vm_d16, vm_c16, by decide, rfl⟩
theorem vm_p16 : vm_mf vm_m16 := ⟨by decide +kernel, vm_r27 _ (List.mem_of_getElem? (i := 22) rfl), vm_r1 _ (List.mem_of_getElem? (i := 23) rfl), by decide +kernel, by decide +kernel⟩
set_option maxRecDepth 100000 in
theorem vm_c17 : ∀ q ∈ vm_k17, vm_chk 0 q = true := by decide +kernel
theorem vm_o17 : vm_ok vm_m17 := ⟨0, rfl, vm_d17, vm_c17, by decide, rfl⟩
theorem vm_p17 : vm_mf vm_m17 := ⟨by decide +kernel, vm_r28 _ (List.mem_of_getElem? (i := 17) rfl), vm_r1 _ (List.mem_of_getElem? (i := 23) rfl), by decide +kernel, by decide +kernel⟩
set_option maxRecDepth 100000 in
theorem vm_c18 : ∀ q ∈ vm_k18, vm_chk 0 q = true := by decide +kernel
theorem vm_o18 : vm_ok vm_m18 := ⟨0, rfl, vm_d18, vm_c18, by decide, rfl⟩
theorem vm_p18 : vm_mf vm_m18 := ⟨by decide +kernel, vm_r29 _ (List.mem_of_getElem? (i := 10) rfl), vm_r1 _ (List.mem_of_getElem? (i := 23) rfl), by decide +kernel, by decide +kernel⟩
set_option maxRecDepth 100000 in
theorem vm_c19 : ∀ q ∈ vm_k19, vm_chk 0 q = true := by decide +kernel
theorem vm_o19 : vm_ok vm_m19 := ⟨0, rfl, vm_d19, vm_c19, by decide, rfl⟩
theorem vm_p19 : vm_mf vm_m19 := ⟨by decide +kernel, vm_r29 _ (List.mem_of_getElem? (i := 14) rfl), vm_r1 _ (List.mem_of_getElem? (i := 23) rfl), by decide +kernel, by decide +kernel⟩
set_option maxRecDepth 100000 in
theorem vm_c20 : ∀ q ∈ vm_k20, vm_chk 0 q = true := by decide +kernel
theorem vm_o20 : vm_ok vm_m20 := ⟨0, rfl, vm_d20, vm_c20, by decide, rfl⟩
theorem vm_p20 : vm_mf vm_m20 := ⟨by decide +kernel, vm_r30 _ (List.mem_of_getElem? (i := 22) rfl), vm_r1 _ (List.mem_of_getElem? (i := 23) rfl), by decide +kernel, by decide +kernel⟩
set_option maxRecDepth 100000 in
theorem vm_c21 : ∀ q ∈ vm_k21, vm_chk 0 q = true := by decide +kernel
theorem vm_o21 : vm_ok vm_m21 := ⟨0, rfl, vm_d21, vm_c21, by decide, rfl⟩
theorem vm_p21 : vm_mf vm_m21 := ⟨by decide +kernel, vm_r42 _ (List.mem_of_getElem? (i := 22) rfl), vm_r1 _ (List.mem_of_getElem? (i := 23) rfl), by decide +kernel, by decide +kernel⟩
set_option maxRecDepth 100000 in
theorem vm_c22 : ∀ q ∈ vm_k22, vm_chk 0 q = true := by decide +kernel
theorem vm_o22 : vm_ok vm_m22 := ⟨0, rfl, vm_d22, vm_c22, by decide, rfl⟩
theorem vm_p22 : vm_mf vm_m22 := ⟨by decide +kernel, vm_r26 _ (List.mem_of_getElem? (i := 14) rfl), vm_r1 _ (List.mem_of_getElem? (i := 23) rfl), by decide +kernel, by decide +kernel⟩
set_option maxRecDepth 100000 in
theorem vm_c23 : ∀ q ∈ vm_k23, vm_chk 0 q = true := by decide +kernel
theorem vm_o23 : vm_ok vm_m23 := ⟨0, rfl, vm_d23, vm_c23, by decide, rfl⟩
theorem vm_p23 : vm_mf vm_m23 := ⟨by decide +kernel, vm_r45 _ (List.mem_of_getElem? (i := 0) rfl), vm_r1 _ (List.mem_of_getElem? (i := 23) rfl), by decide +kernel, by decide +kernel⟩
set_option maxRecDepth 100000 in
theorem vm_c24 : ∀ q ∈ vm_k24, vm_chk 0 q = true := by decide +kernel
theorem vm_o24 : vm_ok vm_m24 := ⟨0, rfl, vm_d24, vm_c24, by decide, rfl⟩
theorem vm_p24 : vm_mf vm_m24 := ⟨by decide +kernel, vm_r43 _ (List.mem_of_getElem? (i := 7) rfl), vm_r1 _ (List.mem_of_getElem? (i := 23) rfl), by decide +kernel, by decide +kernel⟩
set_option maxRecDepth 100000 in
theorem vm_c25 : ∀ q ∈ vm_k25, vm_chk 1 q = true := by decide +kernel
theorem vm_o25 : vm_ok vm_m25 := ⟨1, rfl, vm_d25, vm_c25, by decide, rfl⟩
theorem vm_p25 : vm_mf vm_m25 := ⟨by decide +kernel, vm_r6 _ (List.mem_of_getElem? (i := 11) rfl), vm_r3 _ (List.mem_of_getElem? (i := 1) rfl), by decide +kernel, by decide +kernel⟩
set_option maxRecDepth 100000 in
theorem vm_c26 : ∀ q ∈ vm_k26, vm_chk 1 q = true := by decide +kernel
theorem vm_o26 : vm_ok vm_m26 := ⟨1, rfl, vm_d26, vm_c26, by decide, rfl⟩
theorem vm_p26 : vm_mf vm_m26 := ⟨by decide +kernel, vm_r41 _ (List.mem_of_getElem? (i := 5) rfl), vm_r3 _ (List.mem_of_getElem? (i := 1) rfl), by decide +kernel, by decide +kernel⟩
set_option maxRecDepth 100000 in
theorem vm_c27 : ∀ q ∈ vm_k27, vm_chk 1 q = true := by decide +kernel
theorem vm_o27 : vm_ok vm_m27 := ⟨1, rfl, vm_d27, vm_c27, by decide, rfl⟩
theorem vm_p27 : vm_mf vm_m27 := ⟨by decide +kernel, vm_r41 _ (List.mem_of_getElem? (i := 14) rfl), vm_r3 _ (List.mem_of_getElem? (i := 1) rfl), by decide +kernel, by decide +kernel⟩
set_option maxRecDepth 100000 in
theorem vm_c28 : ∀ q ∈ vm_k28, vm_chk 1 q = true := by decide +kernel
theorem vm_o28 : vm_ok vm_m28 := ⟨1, rfl, vm_d28, vm_c28, by decide, rfl⟩
theorem vm_p28 : vm_mf vm_m28 := ⟨by decide +kernel, vm_r41 _ (List.mem_of_getElem? (i := 20) rfl), vm_r3 _ (List.mem_of_getElem? (i := 1) rfl), by decide +kernel, by decide +kernel⟩
set_option maxRecDepth 100000 in
theorem vm_c29 : ∀ q ∈ vm_k29, vm_chk 1 q = true := by decide +kernel
theorem vm_o29 : vm_ok vm_m29 := ⟨1, rfl, vm_d29, vm_c29, by decide, rfl⟩
theorem vm_p29 : vm_mf vm_m29 := ⟨by decide +kernel, vm_r42 _ (List.mem_of_getElem? (i := 0) rfl), vm_r3 _ (List.mem_of_getElem? (i := 1) rfl), by decide +kernel, by decide +kernel⟩
set_option maxRecDepth 100000 in
theorem vm_c30 : ∀ q ∈ vm_k30, vm_chk 2 q = true := by decide +kernel
theorem vm_o30 : vm_ok vm_m30 := ⟨2, rfl, vm_d30, vm_c30, by decide, rfl⟩
theorem vm_p30 : vm_mf vm_m30 := ⟨by decide +kernel, vm_r24 _ (List.mem_of_getElem? (i := 13) rfl), vm_r24 _ (List.mem_of_getElem? (i := 12) rfl), by decide +kernel, by decide +kernel⟩
set_option maxRecDepth 100000 in
theorem vm_c31 : ∀ q ∈ vm_k31, vm_chk 2 q = true := by decide +kernel
theorem vm_o31 : vm_ok vm_m31 := ⟨2, rfl, vm_d31, vm_c31, by decide, rfl⟩
theorem vm_p31 : vm_mf vm_m31 := ⟨by decide +kernel, vm_r26 _ (List.mem_of_getElem? (i := 10) rfl), vm_r24 _ (List.mem_of_getElem? (i := 12) rfl), by decide +kernel, by decide +kernel⟩
set_option maxRecDepth 100000 in
theorem vm_c32 : ∀ q ∈ vm_k32, vm_chk 2 q = true := by decide +kernel
theorem vm_o32 : vm_ok vm_m32 := ⟨2, rfl, vm_d32, vm_c32, by decide, rfl⟩
theorem vm_p32 : vm_mf vm_m32 := ⟨by decide +kernel, vm_r24 _ (List.mem_of_getElem? (i := 20) rfl), vm_r24 _ (List.mem_of_getElem? (i := 12) rfl), by decide +kernel, by decide +kernel⟩
set_option maxRecDepth 100000 in
theorem vm_c33 : ∀ q ∈ vm_k33, vm_chk 3 q = true := by decide +kernel
theorem vm_o33 : vm_ok vm_m33 := ⟨3, rfl, vm_d33, vm_c33, by decide, rfl⟩
theorem vm_p33 : vm_mf vm_m33 := ⟨by decide +kernel, vm_r5 _ (List.mem_of_getElem? (i := 5) rfl), vm_r2 _ (List.mem_of_getElem? (i := 13) rfl), by decide +kernel, by decide +kernel⟩
set_option maxRecDepth 100000 in
theorem vm_c34 : ∀ q ∈ vm_k34, vm_chk 3 q = true := by decide +kernel
theorem vm_o34 : vm_ok vm_m34 := ⟨3, rfl, vm_d34, vm_c34, by decide, rfl⟩
theorem vm_p34 : vm_mf vm_m34 := ⟨by decide +kernel, vm_r31 _ (List.mem_of_getElem? (i := 10) rfl), vm_r2 _ (List.mem_of_getElem? (i := 13) rfl), by decide +kernel, by decide +kernel⟩
set_option maxRecDepth 100000 in
theorem vm_c35 : ∀ q ∈ vm_k35, vm_chk 3 q = true := by decide +kernel
theorem vm_o35 : vm_ok vm_m35 := ⟨3, rfl, vm_d35, vm_c35, by decide, rfl⟩
theorem vm_p35 : vm_mf vm_m35 := ⟨by decide +kernel, vm_r32 _ (List.mem_of_getElem? (i := 14) rfl), vm_r2 _ (List.mem_of_getElem? (i := 13) rfl), by decide +kernel, by decide +kernel⟩
set_option maxRecDepth 100000 in
theorem vm_c36 : ∀ q ∈ vm_k36, vm_chk 3 q = true := by decide +kernel
theorem vm_o36 : vm_ok vm_m36 := ⟨3, rfl, vm_d36, vm_c36, by decide, rfl⟩
theorem vm_p36 : vm_mf vm_m36 := ⟨by decide +kernel, vm_r32 _ (List.mem_of_getElem? (i := 1) rfl), vm_r2 _ (List.mem_of_getElem? (i := 13) rfl), by decide +kernel, by decide +kernel⟩
set_option maxRecDepth 100000 in
theorem vm_c37 : ∀ q ∈ vm_k37, vm_chk 3 q = true := by decide +kernel
theorem vm_o37 : vm_ok vm_m37 := ⟨3, rfl, vm_d37, vm_c37, by decide, rfl⟩
theorem vm_p37 : vm_mf vm_m37 := ⟨by decide +kernel, vm_r32 _ (List.mem_of_getElem? (i := 8) rfl), vm_r2 _ (List.mem_of_getElem? (i := 13) rfl), by decide +kernel, by decide +kernel⟩
set_option maxRecDepth 100000 in
theorem vm_c38 : ∀ q ∈ vm_k38, vm_chk 4 q = true := by decide +kernel
theorem vm_o38 : vm_ok vm_m38 := ⟨4, rfl, vm_d38, vm_c38, by decide, rfl⟩
theorem vm_p38 : vm_mf vm_m38 := ⟨by decide +kernel, vm_r5 _ (List.mem_of_getElem? (i := 23) rfl), vm_r2 _ (List.mem_of_getElem? (i := 21) rfl), by decide +kernel, by decide +kernel⟩
set_option maxRecDepth 100000 in
theorem vm_c39 : ∀ q ∈ vm_k39, vm_chk 4 q = true := by decide +kernel
theorem vm_o39 : vm_ok vm_m39 := ⟨4, rfl, vm_d39, vm_c39, by decide, rfl⟩
theorem vm_p39 : vm_mf vm_m39 := ⟨by decide +kernel, vm_r36 _ (List.mem_of_getElem? (i := 7) rfl), vm_r2 _ (List.mem_of_getElem? (i := 21) rfl), by decide +kernel, by decide +kernel⟩
set_option maxRecDepth 100000 in
theorem vm_c40 : ∀ q ∈ vm_k40, vm_chk 4 q = true := by decide +kernel
theorem vm_o40 : vm_ok vm_m40 := ⟨4, rfl, vm_d40, vm_c40, by decide, rfl⟩
theorem vm_p40 : vm_mf vm_m40 := ⟨by decide +kernel, vm_r37 _ (List.mem_of_getElem? (i := 2) rfl), vm_r2 _ (List.mem_of_getElem? (i := 21) rfl), by decide +kernel, by decide +kernel⟩
set_option maxRecDepth 100000 in
theorem vm_c41 : ∀ q ∈ vm_k41, vm_chk 4 q = true := by decide +kernel
theorem vm_o41 : vm_ok vm_m41 := ⟨4, rfl, vm_d41, vm_c41, by decide, rfl⟩
theorem vm_p41 : vm_mf vm_m41 := ⟨by decide +kernel, vm_r36 _ (List.mem_of_getElem? (i := 13) rfl), vm_r2 _ (List.mem_of_getElem? (i := 21) rfl), by decide +kernel, by decide +kernel⟩
set_option maxRecDepth 100000 in
theorem vm_c42 : ∀ q ∈ vm_k42, vm_chk 4 q = true := by decide +kernel
theorem vm_o42 : vm_ok vm_m42 := ⟨4, rfl, vm_d42, vm_c42, by decide, rfl⟩
theorem vm_p42 : vm_mf vm_m42 := ⟨by decide +kernel, vm_r36 _ (List.mem_of_getElem? (i := 21) rfl), vm_r2 _ (List.mem_of_getElem? (i := 21) rfl), by decide +kernel, by decide +kernel⟩
set_option maxRecDepth 100000 in
theorem vm_c43 : ∀ q ∈ vm_k43, vm_chk 5 q = true := by decide +kernel
theorem vm_o43 : vm_ok vm_m43 := ⟨5, rfl, vm_d43, vm_c43, by decide, rfl⟩
theorem vm_p43 : vm_mf vm_m43 := ⟨by decide +kernel, vm_r4 _ (List.mem_of_getElem? (i := 16) rfl), vm_r2 _ (List.mem_of_getElem? (i := 9) rfl), by decide +kernel, by decide +kernel⟩
set_option maxRecDepth 100000 in
theorem vm_c44 : ∀ q ∈ vm_k44, vm_chk 5 q = true := by decide +kernel
theorem vm_o44 : vm_ok vm_m44 := ⟨5, rfl, vm_d44, vm_c44, by decide, rfl⟩
theorem vm_p44 : vm_mf vm_m44 := ⟨by decide +kernel, vm_r13 _ (List.mem_of_getElem? (i := 6) rfl), vm_r2 _ (List.mem_of_getElem? (i := 9) rfl), by decide +kernel, by decide +kernel⟩
set_option maxRecDepth 100000 in
theorem vm_c45 : ∀ q ∈ vm_k45, vm_chk 5 q = true := by decide +kernel
theorem vm_o45 : vm_ok vm_m45 := ⟨5, rfl, vm_d45, vm_c45, by decide, rfl⟩
theorem vm_p45 : vm_mf vm_m45 := ⟨by decide +kernel, vm_r13 _ (List.mem_of_getElem? (i := 22) rfl), vm_r2 _ (List.mem_of_getElem? (i := 9) rfl), by decide +kernel, by decide +kernel⟩
set_option maxRecDepth 100000 in
theorem vm_c46 : ∀ q ∈ vm_k46, vm_chk 5 q = true := by decide +kernel
theorem vm_o46 : vm_ok vm_m46 := ⟨5, rfl, vm_d46, vm_c46, by decide, rfl⟩
theorem vm_p46 : vm_mf vm_m46 := ⟨by decide +kernel, vm_r12 _ (List.mem_of_getElem? (i := 15) rfl), vm_r2 _ (List.mem_of_getElem? (i := 9) rfl), by decide +kernel, by decide +kernel⟩
set_option maxRecDepth 100000 in
theorem vm_c47 : ∀ q ∈ vm_k47, vm_chk 5 q = true := by decide +kernel
theorem vm_o47 : vm_ok vm_m47 := ⟨5, rfl, vm_d47, vm_c47, by decide, rfl⟩
theorem vm_p47 : vm_mf vm_m47 := ⟨by decide +kernel, vm_r9 _ (List.mem_of_getElem? (i := 7) rfl), vm_r2 _ (List.mem_of_getElem? (i := 9) rfl), by decide +kernel, by decide +kernel⟩
set_option maxRecDepth 100000 in
theorem vm_c48 : ∀ q ∈ vm_k48, vm_chk 5 q = true := by decide +kernel
theorem vm_o48 : vm_ok vm_m48 := ⟨5, rfl, vm_d48, vm_c48, by decide, rfl⟩
theorem vm_p48 : vm_mf vm_m48 := ⟨by decide +kernel, vm_r10 _ (List.mem_of_getElem? (i := 7) rfl), vm_r2 _ (List.mem_of_getElem? (i := 9) rfl), by decide +kernel, by decide +kernel⟩
set_option maxRecDepth 100000 in
theorem vm_c49 : ∀ q ∈ vm_k49, vm_chk 5 q = true := by decide +kernel
theorem vm_o49 : vm_ok vm_m49 := ⟨5, rfl, vm_d49, vm_c49, by decide, rfl⟩
theorem vm_p49 : vm_mf vm_m49 := ⟨by decide +kernel, vm_r10 _ (List.mem_of_getElem? (i := 19) rfl), vm_r2 _ (List.mem_of_getElem? (i := 9) rfl), by decide +kernel, by decide +kernel⟩
set_option maxRecDepth 100000 in
theorem vm_c50 : ∀ q ∈ vm_k50, vm_chk 5 q = true := by decide +kernel
theorem vm_o50 : vm_ok vm_m50 := ⟨5, rfl, vm_d50, vm_c50, by decide, rfl⟩
theorem vm_p50 : vm_mf vm_m50 := ⟨by decide +kernel, vm_r11 _ (List.mem_of_getElem? (i := 14) rfl), vm_r2 _ (List.mem_of_getElem? (i := 9) rfl), by decide +kernel, by decide +kernel⟩
set_option maxRecDepth 100000 in
theorem vm_c51 : ∀ q ∈ vm_k51, vm_chk 5 q = true := by decide +kernel
theorem vm_o51 : vm_ok vm_m51 := ⟨5, rfl, vm_d51, vm_c51, by decide, rfl⟩
theorem vm_p51 : vm_mf vm_m51 := ⟨by decide +kernel, vm_r11 _ (List.mem_of_getElem? (i := 18) rfl), vm_r2 _ (List.mem_of_getElem? (i := 9) rfl), by decide +kernel, by decide +kernel⟩
set_option maxRecDepth 100000 in
theorem vm_c52 : ∀ q ∈ vm_k52, vm_chk 5 q = true := by decide +kernel
theorem vm_o52 : vm_ok vm_m52 := ⟨5, rfl, vm_d52, vm_c52, by decide, rfl⟩
theorem vm_p52 : vm_mf vm_m52 := ⟨by decide +kernel, vm_r10 _ (List.mem_of_getElem? (i := 11) rfl), vm_r2 _ (List.mem_of_getElem? (i := 9) rfl), by decide +kernel, by decide +kernel⟩
set_option maxRecDepth 100000 in
theorem vm_c53 : ∀ q ∈ vm_k53, vm_chk 5 q = true := by decide +kernel
theorem vm_o53 : vm_ok vm_m53 := ⟨5, rfl, vm_d53, vm_c53, by decide, rfl⟩
theorem vm_p53 : vm_mf vm_m53 := ⟨by decide +kernel, vm_r10 _ (List.mem_of_getElem? (i := 23) rfl), vm_r2 _ (List.mem_of_getElem? (i := 9) rfl), by decide +kernel, by decide +kernel⟩
set_option maxRecDepth 100000 in
theorem vm_c54 : ∀ q ∈ vm_k54, vm_chk 6 q = true := by decide +kernel
theorem vm_o54 : vm_ok vm_m54 := ⟨6, rfl, vm_d54, vm_c54, by decide, rfl⟩
theorem vm_p54 : vm_mf vm_m54 := ⟨by decide +kernel, vm_r3 _ (List.mem_of_getElem? (i := 5) rfl), vm_r1 _ (List.mem_of_getElem? (i := 14) rfl), by decide +kernel, by decide +kernel⟩
set_option maxRecDepth 100000 in
theorem vm_c55 : ∀ q ∈ vm_k55, vm_chk 6 q = true := by decide +kernel
theorem vm_o55 : vm_ok vm_m55 := ⟨6, rfl, vm_d55, vm_c55, by decide, rfl⟩
theorem vm_p55 : vm_mf vm_m55 := ⟨by decide +kernel, vm_r10 _ (List.mem_of_getElem? (i := 3) rfl), vm_r1 _ (List.mem_of_getElem? (i := 14) rfl), by decide +kernel, by decide +kernel⟩
set_option maxRecDepth 100000 in
theorem vm_c56 : ∀ q ∈ vm_k56, vm_chk 6 q = true := by decide +kernel
theorem vm_o56 : vm_ok vm_m56 := ⟨6, rfl, vm_d56, vm_c56, by decide, rfl⟩
theorem vm_p56 : vm_mf vm_m56 := ⟨by decide +kernel, vm_r11 _ (List.mem_of_getElem? (i := 8) rfl), vm_r1 _ (List.mem_of_getElem? (i := 14) rfl), by decide +kernel, by decide +kernel⟩
set_option maxRecDepth 100000 in
theorem vm_c57 : ∀ q ∈ vm_k57, vm_chk 6 q = true := by decide +kernel
theorem vm_o57 : vm_ok vm_m57 := ⟨6, rfl, vm_d57, vm_c57, by decide, rfl⟩
theorem vm_p57 : vm_mf vm_m57 := ⟨by decide +kernel, vm_r9 _ (List.mem_of_getElem? (i := 17) rfl), vm_r1 _ (List.mem_of_getElem? (i := 14) rfl), by decide +kernel, by decide +kernel⟩
set_option maxRecDepth 100000 in
theorem vm_c58 : ∀ q ∈ vm_k58, vm_chk 6 q = true := by decide +kernel
theorem vm_o58 : vm_ok vm_m58 := ⟨6, rfl, vm_d58, vm_c58, by decide, rfl⟩
theorem vm_p58 : vm_mf vm_m58 := ⟨by decide +kernel, vm_r8 _ (List.mem_of_getElem? (i := 22) rfl), vm_r1 _ (List.mem_of_getElem? (i := 14) rfl), by decide +kernel, by decide +kernel⟩
set_option maxRecDepth 100000 in
theorem vm_c59 : ∀ q ∈ vm_k59, vm_chk 6 q = true := by decide +kernel
theorem vm_o59 : vm_ok vm_m59 := ⟨6, rfl, vm_d59, vm_c59, by decide, rfl⟩
theorem vm_p59 : vm_mf vm_m59 := ⟨by decide +kernel, vm_r10 _ (List.mem_of_getElem? (i := 15) rfl), vm_r1 _ (List.mem_of_getElem? (i := 14) rfl), by decide +kernel, by decide +kernel⟩
set_option maxRecDepth 100000 in
theorem vm_c60 : ∀ q ∈ vm_k60, vm_chk 6 q = true := by decide +kernel
theorem vm_o60 : vm_ok vm_m60 := ⟨6, rfl, vm_d60, vm_c60, by decide, rfl⟩
theorem vm_p60 : vm_mf vm_m60 := ⟨by decide +kernel, vm_r24 _ (List.mem_of_getElem? (i := 9) rfl), vm_r1 _ (List.mem_of_getElem? (i := 14) rfl), by decide +kernel, by decide +kernel⟩
set_option maxRecDepth 100000 in
theorem vm_c61 : ∀ q ∈ vm_k61, vm_chk 6 q = true := by decide +kernel
theorem vm_o61 : vm_ok vm_m61 := ⟨6, rfl, vm_d61, vm_c61, by decide, rfl⟩
theorem vm_p61 : vm_mf vm_m61 := ⟨by decide +kernel, vm_r31 _ (List.mem_of_getElem? (i := 21) rfl), vm_r1 _ (List.mem_of_getElem? (i := 14) rfl), by decide +kernel, by decide +kernel⟩
set_option maxRecDepth 100000 in
theorem vm_c62 : ∀ q ∈ vm_k62, vm_chk 6 q = true := by decide +kernel
theorem vm_o62 : vm_ok vm_m62 := ⟨6, rfl, vm_d62, vm_c62, by decide, rfl⟩
theorem vm_p62 : vm_mf vm_m62 := ⟨by decide +kernel, vm_r13 _ (List.mem_of_getElem? (i := 14) rfl), vm_r1 _ (List.mem_of_getElem? (i := 14) rfl), by decide +kernel, by decide +kernel⟩
set_option maxRecDepth 100000 in
theorem vm_c63 : ∀ q ∈ vm_k63, vm_chk 7 q = true := by decide +kernel
theorem vm_o63 : vm_ok vm_m63 := ⟨7, rfl, vm_d63, vm_c63, by decide, rfl⟩
theorem vm_p63 : vm_mf vm_m63 := ⟨by decide +kernel, vm_r4 _ (List.mem_of_getElem? (i := 8) rfl), vm_r2 _ (List.mem_of_getElem? (i := 4) rfl), by decide +kernel, by decide +kernel⟩
set_option maxRecDepth 100000 in
theorem vm_c64 : ∀ q ∈ vm_k64, vm_chk 7 q = true := by decide +kernel
theorem vm_o64 : vm_ok vm_m64 := ⟨7, rfl, vm_d64, vm_c64, by decide, rfl⟩
theorem vm_p64 : vm_mf vm_m64 := ⟨by decide +kernel, vm_r30 _ (List.mem_of_getElem? (i := 10) rfl), vm_r2 _ (List.mem_of_getElem? (i := 4) rfl), by decide +kernel, by decide +kernel⟩
set_option maxRecDepth 100000 in
theorem vm_c65 : ∀ q ∈ vm_k65, vm_chk 7 q = true := by decide +kernel
theorem vm_o65 : vm_ok vm_m65 := ⟨7, rfl, vm_d65, vm_c65, by decide, rfl⟩
theorem vm_p65 : vm_mf vm_m65 := ⟨by decide +kernel, vm_r23 _ (List.mem_of_getElem? (i := 11) rfl), vm_r2 _ (List.mem_of_getElem? (i := 4) rfl), by decide +kernel, by decide +kernel⟩
set_option maxRecDepth 100000 in
theorem vm_c66 : ∀ q ∈ vm_k66, vm_chk 7 q = true := by decide +kernel
theorem vm_o66 : vm_ok vm_m66 := ⟨7, rfl, vm_d66, vm_c66, by decide, rfl⟩
theorem vm_p66 : vm_mf vm_m66 := ⟨by decide +kernel, vm_r14 _ (List.mem_of_getElem? (i := 8) rfl), vm_r2 _ (List.mem_of_getElem? (i := 4) rfl), by decide +kernel, by decide +kernel⟩
set_option maxRecDepth 100000 in
theorem vm_c67 : ∀ q ∈ vm_k67, vm_chk 7 q = true := by decide +kernel
theorem vm_o67 : vm_ok vm_m67 := ⟨7, rfl, vm_d67, vm_c67, by decide, rfl⟩
theorem vm_p67 : vm_mf vm_m67 := ⟨by decide +kernel, vm_r23 _ (List.mem_of_getElem? (i := 6) rfl), vm_r2 _ (List.mem_of_getElem? (i := 4) rfl), by decide +kernel, by decide +kernel⟩
set_option maxRecDepth 100000 in
theorem vm_c68 : ∀ q ∈ vm_k68, vm_chk 7 q = true := by decide +kernel
theorem vm_o68 : vm_ok vm_m68 := ⟨7, rfl, vm_d68, vm_c68, by decide, rfl⟩
theorem vm_p68 : vm_mf vm_m68 := ⟨by decide +kernel, vm_r30 _ (List.mem_of_getElem? (i := 6) rfl), vm_r2 _ (List.mem_of_getElem? (i := 4) rfl), by decide +kernel, by decide +kernel⟩
set_option maxRecDepth 100000 in
theorem vm_c69 : ∀ q ∈ vm_k69, vm_chk 7 q = true := by decide +kernel
theorem vm_o69 : vm_ok vm_m69 := ⟨7, rfl, vm_d69, vm_c69, by decide, rfl⟩
theorem vm_p69 : vm_mf vm_m69 := ⟨by decide +kernel, vm_r23 _ (List.mem_of_getElem? (i := 15) rfl), vm_r2 _ (List.mem_of_getElem? (i := 4) rfl), by decide +kernel, by decide +kernel⟩
set_option maxRecDepth 100000 in
theorem vm_c70 : ∀ q ∈ vm_k70, vm_chk 8 q = true := by decide +kernel
theorem vm_o70 : vm_ok vm_m70 := ⟨8, rfl, vm_d70, vm_c70, by decide, rfl⟩
theorem vm_p70 : vm_mf vm_m70 := ⟨by decide +kernel, vm_r3 _ (List.mem_of_getElem? (i := 14) rfl), vm_r1 _ (List.mem_of_getElem? (i := 19) rfl), by decide +kernel, by decide +kernel⟩
set_option maxRecDepth 100000 in
theorem vm_c71 : ∀ q ∈ vm_k71, vm_chk 8 q = true := by decide +kernel
theorem vm_o71 : vm_ok vm_m71 := ⟨8, rfl, vm_d71, vm_c71, by decide, rfl⟩
theorem vm_p71 : vm_mf vm_m71 := ⟨by decide +kernel, vm_r9 _ (List.mem_of_getElem? (i := 12) rfl), vm_r1 _ (List.mem_of_getElem? (i := 19) rfl), by decide +kernel, by decide +kernel⟩
set_option maxRecDepth 100000 in
theorem vm_c72 : ∀ q ∈ vm_k72, vm_chk 8 q = true := by decide +kernel
theorem vm_o72 : vm_ok vm_m72 := ⟨8, rfl, vm_d72, vm_c72, by decide, rfl⟩
theorem vm_p72 : vm_mf vm_m72 := ⟨by decide +kernel, vm_r13 _ (List.mem_of_getElem? (i := 10) rfl), vm_r1 _ (List.mem_of_getElem? (i := 19) rfl), by decide +kernel, by decide +kernel⟩
set_option maxRecDepth 100000 in
theorem vm_c73 : ∀ q ∈ vm_k73, vm_chk 8 q = true := by decide +kernel
theorem vm_o73 : vm_ok vm_m73 := ⟨8, rfl, vm_d73, vm_c73, by decide, rfl⟩
theorem vm_p73 : vm_mf vm_m73 := ⟨by decide +kernel, vm_r11 _ (List.mem_of_getElem? (i := 4) rfl), vm_r1 _ (List.mem_of_getElem? (i := 19) rfl), by decide +kernel, by decide +kernel⟩
set_option maxRecDepth 100000 in
theorem vm_c74 : ∀ q ∈ vm_k74, vm_chk 8 q = true := by decide +kernel
theorem vm_o74 : vm_ok vm_m74 := ⟨8, rfl, vm_d74, vm_c74, by decide, rfl⟩
theorem vm_p74 : vm_mf vm_m74 := ⟨by decide +kernel, vm_r11 _ (List.mem_of_getElem? (i := 22) rfl), vm_r1 _ (List.mem_of_getElem? (i := 19) rfl), by decide +kernel, by decide +kernel⟩
set_option maxRecDepth 100000 in
theorem vm_c75 : ∀ q ∈ vm_k75, vm_chk 8 q = true := by decide +kernel
theorem vm_o75 : vm_ok vm_m75 := ⟨8, rfl, vm_d75, vm_c75, by decide, rfl⟩
theorem vm_p75 : vm_mf vm_m75 := ⟨by decide +kernel, vm_r44 _ (List.mem_of_getElem? (i := 20) rfl), vm_r1 _ (List.mem_of_getElem? (i := 19) rfl), by decide +kernel, by decide +kernel⟩
set_option maxRecDepth 100000 in
theorem vm_c76 : ∀ q ∈ vm_k76, vm_chk 8 q = true := by decide +kernel
theorem vm_o76 : vm_ok vm_m76 := ⟨8, rfl, vm_d76, vm_c76, by decide, rfl⟩
theorem vm_p76 : vm_mf vm_m76 := ⟨by decide +kernel, vm_r12 _ (List.mem_of_getElem? (i := 10) rfl), vm_r1 _ (List.mem_of_getElem? (i := 19) rfl), by decide +kernel, by decide +kernel⟩
set_option maxRecDepth 100000 in
theorem vm_c77 : ∀ q ∈ vm_k77, vm_chk 8 q = true := by decide +kernel
theorem vm_o77 : vm_ok vm_m77 := ⟨8, rfl, vm_d77, vm_c77, by decide, rfl⟩
theorem vm_p77 : vm_mf vm_m77 := ⟨by decide +kernel, vm_r13 _ (List.mem_of_getElem? (i := 0) rfl), vm_r1 _ (List.mem_of_getElem? (i := 19) rfl), by decide +kernel, by decide +kernel⟩
set_option maxRecDepth 100000 in
theorem vm_c78 : ∀ q ∈ vm_k78, vm_chk 8 q = true := by decide +kernel
theorem vm_o78 : vm_ok vm_m78 := ⟨8, rfl, vm_d78, vm_c78, by decide, rfl⟩
theorem vm_p78 : vm_mf vm_m78 := ⟨by decide +kernel, vm_r19 _ (List.mem_of_getElem? (i := 23) rfl), vm_r1 _ (List.mem_of_getElem? (i := 19) rfl), by decide +kernel, by decide +kernel⟩
set_option maxRecDepth 100000 in
theorem vm_c79 : ∀ q ∈ vm_k79, vm_chk 8 q = true := by decide +kernel
theorem vm_o79 : vm_ok vm_m79 := ⟨8, rfl, vm_d79, vm_c79, by decide, rfl⟩
theorem vm_p79 : vm_mf vm_m79 := ⟨by decide +kernel, vm_r34 _ (List.mem_of_getElem? (i := 11) rfl), vm_r1 _ (List.mem_of_getElem? (i := 19) rfl), by decide +kernel, by decide +kernel⟩
set_option maxRecDepth 100000 in
theorem vm_c80 : ∀ q ∈ vm_k80, vm_chk 8 q = true := by decide +kernel
theorem vm_o80 : vm_ok vm_m80 := ⟨8, rfl, vm_d80, vm_c80, by decide, rfl⟩
theorem vm_p80 : vm_mf vm_m80 := ⟨by decide +kernel, vm_r21 _ (List.mem_of_getElem? (i := 3) rfl), vm_r1 _ (List.mem_of_getElem? (i := 19) rfl), by decide +kernel, by decide +kernel⟩
set_option maxRecDepth 100000 in
theorem vm_c81 : ∀ q ∈ vm_k81, vm_chk 8 q = true := by decide +kernel
theorem vm_o81 : vm_ok vm_m81 := ⟨8, rfl, vm_d81, vm_c81, by decide, rfl⟩
theorem vm_p81 : vm_mf vm_m81 := ⟨by decide +kernel, vm_r34 _ (List.mem_of_getElem? (i := 3) rfl), vm_r1 _ (List.mem_of_getElem? (i := 19) rfl), by decide +kernel, by decide +kernel⟩
set_option maxRecDepth 100000 in
theorem vm_c82 : ∀ q ∈ vm_k82, vm_chk 8 q = true := by decide +kernel
theorem vm_o82 : vm_ok vm_m82 := ⟨8, rfl, vm_d82, vm_c82, by decide, rfl⟩
theorem vm_p82 : vm_mf vm_m82 := ⟨by decide +kernel, vm_r34 _ (List.mem_of_getElem? (i := 7) rfl), vm_r1 _ (List.mem_of_getElem? (i := 19) rfl), by decide +kernel, by decide +kernel⟩
set_option maxRecDepth 100000 in
theorem vm_c83 : ∀ q ∈ vm_k83, vm_chk 8 q = true := by decide +kernel
theorem vm_o83 : vm_ok vm_m83 := ⟨8, rfl, vm_d83, vm_c83, by decide, rfl⟩
theorem vm_p83 : vm_mf vm_m83 := ⟨by decide +kernel, vm_r39 _ (List.mem_of_getElem? (i := 18) rfl), vm_r1 _ (List.mem_of_getElem? (i := 19) rfl), by decide +kernel, by decide +kernel⟩
set_option maxRecDepth 100000 in
theorem vm_c84 : ∀ q ∈ vm_k84, vm_chk 8 q = true := by decide +kernel
theorem vm_o84 : vm_ok vm_m84 := ⟨8, rfl, vm_d84, vm_c84, by decide, rfl⟩
theorem vm_p84 : vm_mf vm_m84 := ⟨by decide +kernel, vm_r39 _ (List.mem_of_getElem? (i := 22) rfl), vm_r1 _ (List.mem_of_getElem? (i := 19) rfl), by decide +kernel, by decide +kernel⟩
set_option maxRecDepth 100000 in
theorem vm_c85 : ∀ q ∈ vm_k85, vm_chk 8 q = true := by decide +kernel
theorem vm_o85 : vm_ok vm_m85 := ⟨8, rfl, vm_d85, vm_c85, by decide, rfl⟩
theorem vm_p85 : vm_mf vm_m85 := ⟨by decide +kernel, vm_r40 _ (List.mem_of_getElem? (i := 10) rfl), vm_r1 _ (List.mem_of_getElem? (i := 19) rfl), by decide +kernel, by decide +kernel⟩
set_option maxRecDepth 100000 in
theorem vm_c86 : ∀ q ∈ vm_k86, vm_chk 8 q = true := by decide +kernel
theorem vm_o86 : vm_ok vm_m86 := ⟨8, rfl, vm_d86, vm_c86, by decide, rfl⟩
theorem vm_p86 : vm_mf vm_m86 := ⟨by decide +kernel, vm_r40 _ (List.mem_of_getElem? (i := 16) rfl), vm_r1 _ (List.mem_of_getElem? (i := 19) rfl), by decide +kernel, by decide +kernel⟩
set_option maxRecDepth 100000 in
theorem vm_c87 : ∀ q ∈ vm_k87, vm_chk 9 q = true := by decide +kernel
theorem vm_o87 : vm_ok vm_m87 := ⟨9, rfl, vm_d87, vm_c87, by decide, rfl⟩
theorem vm_p87 : vm_mf vm_m87 := ⟨by decide +kernel, vm_r5 _ (List.mem_of_getElem? (i := 14) rfl), vm_r2 _ (List.mem_of_getElem? (i := 17) rfl), by decide +kernel, by decide +kernel⟩
set_option maxRecDepth 100000 in
theorem vm_c88 : ∀ q ∈ vm_k88, vm_chk 9 q = true := by decide +kernel
theorem vm_o88 : vm_ok vm_m88 := ⟨9, rfl, vm_d88, vm_c88, by decide, rfl⟩
theorem vm_p88 : vm_mf vm_m88 := ⟨by decide +kernel, vm_r33 _ (List.mem_of_getElem? (i := 20) rfl), vm_r2 _ (List.mem_of_getElem? (i := 17) rfl), by decide +kernel, by decide +kernel⟩
set_option maxRecDepth 100000 in
theorem vm_c89 : ∀ q ∈ vm_k89, vm_chk 9 q = true := by decide +kernel
theorem vm_o89 : vm_ok vm_m89 := ⟨9, rfl, vm_d89, vm_c89, by decide, rfl⟩
theorem vm_p89 : vm_mf vm_m89 := ⟨by decide +kernel, vm_r35 _ (List.mem_of_getElem? (i := 7) rfl), vm_r2 _ (List.mem_of_getElem? (i := 17) rfl), by decide +kernel, by decide +kernel⟩
set_option maxRecDepth 100000 in
theorem vm_c90 : ∀ q ∈ vm_k90, vm_chk 9 q = true := by decide +kernel
theorem vm_o90 : vm_ok vm_m90 := ⟨9, rfl, vm_d90, vm_c90, by decide, rfl⟩
theorem vm_p90 : vm_mf vm_m90 := ⟨by decide +kernel, vm_r34 _ (List.mem_of_getElem? (i := 19) rfl), vm_r2 _ (List.mem_of_getElem? (i := 17) rfl), by decide +kernel, by decide +kernel⟩
set_option maxRecDepth 100000 in
theorem vm_c91 : ∀ q ∈ vm_k91, vm_chk 9 q = true := by decide +kernel
theorem vm_o91 : vm_ok vm_m91 := ⟨9, rfl, vm_d91, vm_c91, by decide, rfl⟩
theorem vm_p91 : vm_mf vm_m91 := ⟨by decide +kernel, vm_r34 _ (List.mem_of_getElem? (i := 23) rfl), vm_r2 _ (List.mem_of_getElem? (i := 17) rfl), by decide +kernel, by decide +kernel⟩
set_option maxRecDepth 100000 in
theorem vm_c92 : ∀ q ∈ vm_k92, vm_chk 10 q = true := by decide +kernel
theorem vm_o92 : vm_ok vm_m92 := ⟨10, rfl, vm_d92, vm_c92, by decide, rfl⟩
theorem vm_p92 : vm_mf vm_m92 := ⟨by decide +kernel, vm_r1 _ (List.mem_of_getElem? (i := 8) rfl), vm_r1 _ (List.mem_of_getElem? (i := 2) rfl), by decide +kernel, by decide +kernel⟩
set_option maxRecDepth 100000 in
theorem vm_c93 : ∀ q ∈ vm_k93, vm_chk 10 q = true := by decide +kernel
theorem vm_o93 : vm_ok vm_m93 := ⟨10, rfl, vm_d93, vm_c93, by decide, rfl⟩
theorem vm_p93 : vm_mf vm_m93 := ⟨by decide +kernel, vm_r15 _ (List.mem_of_getElem? (i := 23) rfl), vm_r1 _ (List.mem_of_getElem? (i := 2) rfl), by decide +kernel, by decide +kernel⟩
set_option maxRecDepth 100000 in
theorem vm_c94 : ∀ q ∈ vm_k94, vm_chk 10 q = true := by decide +kernel
theorem vm_o94 : vm_ok vm_m94 := ⟨10, rfl, vm_d94, vm_c94, by decide, rfl⟩
theorem vm_p94 : vm_mf vm_m94 := ⟨by decide +kernel, vm_r16 _ (List.mem_of_getElem? (i := 16) rfl), vm_r1 _ (List.mem_of_getElem? (i := 2) rfl), by decide +kernel, by decide +kernel⟩
set_option maxRecDepth 100000 in
theorem vm_c95 : ∀ q ∈ vm_k95, vm_chk 10 q = true := by decide +kernel
theorem vm_o95 : vm_ok vm_m95 := ⟨10, rfl, vm_d95, vm_c95, by decide, rfl⟩
theorem vm_p95 : vm_mf vm_m95 := ⟨by decide +kernel, vm_r17 _ (List.mem_of_getElem? (i := 0) rfl), vm_r1 _ (List.mem_of_getElem? (i := 2) rfl), by decide +kernel, by decide +kernel⟩
set_option maxRecDepth 100000 in
theorem vm_c96 : ∀ q ∈ vm_k96, vm_chk 10 q = true := by decide +kernel
theorem vm_o96 : vm_ok vm_m96 := ⟨10, rfl, vm_d96, vm_c96, by decide, rfl⟩
theorem vm_p96 : vm_mf vm_m96 := ⟨by decide +kernel, vm_r18 _ (List.mem_of_getElem? (i := 23) rfl), vm_r1 _ (List.mem_of_getElem? (i := 2) rfl), by decide +kernel, by decide +kernel⟩
set_option maxRecDepth 100000 in
theorem vm_c97 : ∀ q ∈ vm_k97, vm_chk 10 q = true := by decide +kernel
theorem vm_o97 : vm_ok vm_m97 := ⟨10, rfl, vm_d97, vm_c97, by decide, rfl⟩
theorem vm_p97 : vm_mf vm_m97 := ⟨by decide +kernel, vm_r19 _ (List.mem_of_getElem? (i := 15) rfl), vm_r1 _ (List.mem_of_getElem? (i := 2) rfl), by decide +kernel, by decide +kernel⟩
set_option maxRecDepth 100000 in
theorem vm_c98 : ∀ q ∈ vm_k98, vm_chk 10 q = true := by decide +kernel
theorem vm_o98 : vm_ok vm_m98 := ⟨10, rfl, vm_d98, vm_c98, by decide, rfl⟩
theorem vm_p98 : vm_mf vm_m98 := ⟨by decide +kernel, vm_r20 _ (List.mem_of_getElem? (i := 19) rfl), vm_r1 _ (List.mem_of_getElem? (i := 2) rfl), by decide +kernel, by decide +kernel⟩
set_option maxRecDepth 100000 in
theorem vm_c99 : ∀ q ∈ vm_k99, vm_chk 10 q = true := by decide +kernel
theorem vm_o99 : vm_ok vm_m99 := ⟨10, rfl, vm_d99, vm_c99, by decide, rfl⟩
theorem vm_p99 : vm_mf vm_m99 := ⟨by decide +kernel, vm_r21 _ (List.mem_of_getElem? (i := 20) rfl), vm_r1 _ (List.mem_of_getElem? (i := 2) rfl), by decide +kernel, by decide +kernel⟩
set_option maxRecDepth 100000 in
theorem vm_c100 : ∀ q ∈ vm_k100, vm_chk 10 q = true := by decide +kernel
theorem vm_o100 : vm_ok vm_m100 := ⟨10, rfl, vm_d100, vm_c100, by decide, rfl⟩
theorem vm_p100 : vm_mf vm_m100 := ⟨by decide +kernel, vm_r22 _ (List.mem_of_getElem? (i := 17) rfl), vm_r1 _ (List.mem_of_getElem? (i := 2) rfl), by decide +kernel, by decide +kernel⟩
set_option maxRecDepth 100000 in
theorem vm_c101 : ∀ q ∈ vm_k101, vm_chk 10 q = true := by decide +kernel
theorem vm_o101 : vm_ok vm_m101 := ⟨10, rfl, vm_d101, vm_c101, by decide, rfl⟩
theorem vm_p101 : vm_mf vm_m101 := ⟨by decide +kernel, vm_r26 _ (List.mem_of_getElem? (i := 2) rfl), vm_r1 _ (List.mem_of_getElem? (i := 2) rfl), by decide +kernel, by decide +kernel⟩
set_option maxRecDepth 100000 in
theorem vm_c102 : ∀ q ∈ vm_k102, vm_chk 10 q = true := by decide +kernel
theorem vm_o102 : vm_ok vm_m102 := ⟨10, rfl, vm_d102, vm_c102, by decide, rfl⟩
theorem vm_p102 : vm_mf vm_m102 := ⟨by decide +kernel, vm_r27 _ (List.mem_of_getElem? (i := 10) rfl), vm_r1 _ (List.mem_of_getElem? (i := 2) rfl), by decide +kernel, by decide +kernel⟩
set_option maxRecDepth 100000 in
theorem vm_c103 : ∀ q ∈ vm_k103, vm_chk 10 q = true := by decide +kernel
theorem vm_o103 : vm_ok vm_m103 := ⟨10, rfl, vm_d103, vm_c103, by decide, rfl⟩
theorem vm_p103 : vm_mf vm_m103 := ⟨by decide +kernel, vm_r28 _ (List.mem_of_getElem? (i := 12) rfl), vm_r1 _ (List.mem_of_getElem? (i := 2) rfl), by decide +kernel, by decide +kernel⟩
set_option maxRecDepth 100000 in
theorem vm_c104 : ∀ q ∈ vm_k104, vm_chk 10 q = true := by decide +kernel
theorem vm_o104 : vm_ok vm_m104 := ⟨10, rfl, vm_d104, vm_c104, by decide, rfl⟩
theorem vm_p104 : vm_mf vm_m104 := ⟨by decide +kernel, vm_r29 _ (List.mem_of_getElem? (i := 6) rfl), vm_r1 _ (List.mem_of_getElem? (i := 2) rfl), by decide +kernel, by decide +kernel⟩
set_option maxRecDepth 100000 in
theorem vm_c105 : ∀ q ∈ vm_k105, vm_chk 10 q = true := by decide +kernel
theorem vm_o105 : vm_ok vm_m105 := ⟨10, rfl, vm_d105, vm_c105, by decide, rfl⟩
theorem vm_p105 : vm_mf vm_m105 := ⟨by decide +kernel, vm_r30 _ (List.mem_of_getElem? (i := 2) rfl), vm_r1 _ (List.mem_of_getElem? (i := 2) rfl), by decide +kernel, by decide +kernel⟩
set_option maxRecDepth 100000 in
theorem vm_c106 : ∀ q ∈ vm_k106, vm_chk 10 q = true := by decide +kernel
theorem vm_o106 : vm_ok vm_m106 := ⟨10, rfl, vm_d106, vm_c106, by decide, rfl⟩
theorem vm_p106 : vm_mf vm_m106 := ⟨by decide +kernel, vm_r30 _ (List.mem_of_getElem? (i := 18) rfl), vm_r1 _ (List.mem_of_getElem? (i := 2) rfl), by decide +kernel, by decide +kernel⟩
set_option maxRecDepth 100000 in
theorem vm_c107 : ∀ q ∈ vm_k107, vm_chk 10 q = true := by decide +kernel
theorem vm_o107 : vm_ok vm_m107 := ⟨10, rfl, vm_d107, vm_c107, by decide, rfl⟩
theorem vm_p107 : vm_mf vm_m107 := ⟨by decide +kernel, vm_r31 _ (List.mem_of_getElem? (i := 6) rfl), vm_r1 _ (List.mem_of_getElem? (i := 2) rfl), by decide +kernel, by decide +kernel⟩
set_option maxRecDepth 100000 in
theorem vm_c108 : ∀ q ∈ vm_k108, vm_chk 10 q = true := by decide +kernel
theorem vm_o108 : vm_ok vm_m108 := ⟨10, rfl, vm_d108, vm_c108, by decide, rfl⟩
theorem vm_p108 : vm_mf vm_m108 := ⟨by decide +kernel, vm_r33 _ (List.mem_of_getElem? (i := 16) rfl), vm_r1 _ (List.mem_of_getElem? (i := 2) rfl), by decide +kernel, by decide +kernel⟩
set_option maxRecDepth 100000 in
theorem vm_c109 : ∀ q ∈ vm_k109, vm_chk 10 q = true := by decide +kernel
theorem vm_o109 : vm_ok vm_m109 := ⟨10, rfl, vm_d109, vm_c109, by decide, rfl⟩
theorem vm_p109 : vm_mf vm_m109 := ⟨by decide +kernel, vm_r36 _ (List.mem_of_getElem? (i := 3) rfl), vm_r1 _ (List.mem_of_getElem? (i := 2) rfl), by decide +kernel, by decide +kernel⟩
set_option maxRecDepth 100000 in
theorem vm_c110 : ∀ q ∈ vm_k110, vm_chk 10 q = true := by decide +kernel
theorem vm_o110 : vm_ok vm_m110 := ⟨10, rfl, vm_d110, vm_c110, by decide, rfl⟩
theorem vm_p110 : vm_mf vm_m110 := ⟨by decide +kernel, vm_r37 _ (List.mem_of_getElem? (i := 18) rfl), vm_r1 _ (List.mem_of_getElem? (i := 2) rfl), by decide +kernel, by decide +kernel⟩
set_option maxRecDepth 100000 in
theorem vm_c111 : ∀ q ∈ vm_k111, vm_chk 10 q = true := by decide +kernel
theorem vm_o111 : vm_ok vm_m111 := ⟨10, rfl, vm_d111, vm_c111, by decide, rfl⟩
theorem vm_p111 : vm_mf vm_m111 := ⟨by decide +kernel, vm_r38 _ (List.mem_of_getElem? (i := 6) rfl), vm_r1 _ (List.mem_of_getElem? (i := 2) rfl), by decide +kernel, by decide +kernel⟩
set_option maxRecDepth 100000 in
theorem vm_c112 : ∀ q ∈ vm_k112, vm_chk 10 q = true := by decide +kernel
theorem vm_o112 : vm_ok vm_m112 := ⟨10, rfl, vm_d112, vm_c112, by decide, rfl⟩
theorem vm_p112 : vm_mf vm_m112 := ⟨by decide +kernel, vm_r38 _ (List.mem_of_getElem? (i := 22) rfl), vm_r1 _ (List.mem_of_getElem? (i := 2) rfl), by decide +kernel, by decide +kernel⟩
set_option maxRecDepth 100000 in
theorem vm_c113 : ∀ q ∈ vm_k113, vm_chk 10 q = true := by decide +kernel
theorem vm_o113 : vm_ok vm_m113 := ⟨10, rfl, vm_d113, vm_c113, by decide, rfl⟩
theorem vm_p113 : vm_mf vm_m113 := ⟨by decide +kernel, vm_r39 _ (List.mem_of_getElem? (i := 6) rfl), vm_r1 _ (List.mem_of_getElem? (i := 2) rfl), by decide +kernel, by decide +kernel⟩
set_option maxRecDepth 100000 in
theorem vm_c114 : ∀ q ∈ vm_k114, vm_chk 10 q = true := by decide +kernel
theorem vm_o114 : vm_ok vm_m114 := ⟨10, rfl, vm_d114, vm_c114, by decide, rfl⟩
theorem vm_p114 : vm_mf vm_m114 := ⟨by decide +kernel, vm_r39 _ (List.mem_of_getElem? (i := 14) rfl), vm_r1 _ (List.mem_of_getElem? (i := 2) rfl), by decide +kernel, by decide +kernel⟩
set_option maxRecDepth 100000 in
theorem vm_c115 : ∀ q ∈ vm_k115, vm_chk 10 q = true := by decide +kernel
theorem vm_o115 : vm_ok vm_m115 := ⟨10, rfl, vm_d115, vm_c115, by decide, rfl⟩
theorem vm_p115 : vm_mf vm_m115 := ⟨by decide +kernel, vm_r40 _ (List.mem_of_getElem? (i := 6) rfl), vm_r1 _ (List.mem_of_getElem? (i := 2) rfl), by decide +kernel, by decide +kernel⟩
set_option maxRecDepth 100000 in
theorem vm_c116 : ∀ q ∈ vm_k116, vm_chk 10 q = true := by decide +kernel
theorem vm_o116 : vm_ok vm_m116 := ⟨10, rfl, vm_d116, vm_c116, by decide, rfl⟩
theorem vm_p116 : vm_mf vm_m116 := ⟨by decide +kernel, vm_r41 _ (List.mem_of_getElem? (i := 1) rfl), vm_r1 _ (List.mem_of_getElem? (i := 2) rfl), by decide +kernel, by decide +kernel⟩
set_option maxRecDepth 100000 in
theorem vm_c117 : ∀ q ∈ vm_k117, vm_chk 10 q = true := by decide +kernel
theorem vm_o117 : vm_ok vm_m117 := ⟨10, rfl, vm_d117, vm_c117, by decide, rfl⟩
theorem vm_p117 : vm_mf vm_m117 := ⟨by decide +kernel, vm_r42 _ (List.mem_of_getElem? (i := 12) rfl), vm_r1 _ (List.mem_of_getElem? (i := 2) rfl), by decide +kernel, by decide +kernel⟩
set_option maxRecDepth 100000 in
theorem vm_c118 : ∀ q ∈ vm_k118, vm_chk 10 q = true := by decide +kernel
theorem vm_o118 : vm_ok vm_m118 := ⟨10, rfl, vm_d118, vm_c118, by decide, rfl⟩
theorem vm_p118 : vm_mf vm_m118 := ⟨by decide +kernel, vm_r43 _ (List.mem_of_getElem? (i := 23) rfl), vm_r1 _ (List.mem_of_getElem? (i := 2) rfl), by decide +kernel, by decide +kernel⟩
set_option maxRecDepth 100000 in
theorem vm_c119 : ∀ q ∈ vm_k119, vm_chk 10 q = true := by decide +kernel
theorem vm_o119 : vm_ok vm_m119 := ⟨10, rfl, vm_d119, vm_c119, by decide, rfl⟩
theorem vm_p119 : vm_mf vm_m119 := ⟨by decide +kernel, vm_r44 _ (List.mem_of_getElem? (i := 8) rfl), vm_r1 _ (List.mem_of_getElem? (i := 2) rfl), by decide +kernel, by decide +kernel⟩
set_option maxRecDepth 100000 in
theorem vm_c120 : ∀ q ∈ vm_k120, vm_chk 10 q = true := by decide +kernel
theorem vm_o120 : vm_ok vm_m120 := ⟨10, rfl, vm_d120, vm_c120, by decide, rfl⟩
theorem vm_p120 : vm_mf vm_m120 := ⟨by decide +kernel, vm_r44 _ (List.mem_of_getElem? (i := 16) rfl), vm_r1 _ (List.mem_of_getElem? (i := 2) rfl), by decide +kernel, by decide +kernel⟩
set_option maxRecDepth 100000 in
theorem vm_c121 : ∀ q ∈ vm_k121, vm_chk 10 q = true := by decide +kernel
theorem vm_o121 : vm_ok vm_m121 := ⟨10, rfl, vm_d121, vm_c121, by decide, rfl⟩
theorem vm_p121 : vm_mf vm_m121 := ⟨by decide +kernel, vm_r9 _ (List.mem_of_getElem? (i := 3) rfl), vm_r1 _ (List.mem_of_getElem? (i := 2) rfl), by decide +kernel, by decide +kernel⟩
set_option maxRecDepth 100000 in
theorem vm_c122 : ∀ q ∈ vm_k122, vm_chk 10 q = true := by decide +kernel
theorem vm_o122 : vm_ok vm_m122 := ⟨10, rfl, vm_d122, vm_c122, by decide, rfl⟩
theorem vm_p122 : vm_mf vm_m122 := ⟨by decide +kernel, vm_r38 _ (List.mem_of_getElem? (i := 10) rfl), vm_r1 _ (List.mem_of_getElem? (i := 2) rfl), by decide +kernel, by decide +kernel⟩
set_option maxRecDepth 100000 in
theorem vm_c123 : ∀ q ∈ vm_k123, vm_chk 10 q = true := by decide +kernel
theorem vm_o123 : vm_ok vm_m123 := ⟨10, rfl, vm_d123, vm_c123, by decide, rfl⟩
theorem vm_p123 : vm_mf vm_m123 := ⟨by decide +kernel, vm_r27 _ (List.mem_of_getElem? (i := 14) rfl), vm_r1 _ (List.mem_of_getElem? (i := 2) rfl), by decide +kernel, by decide +kernel⟩
set_option maxRecDepth 100000 in
theorem vm_c124 : ∀ q ∈ vm_k124, vm_chk 10 q = true := by decide +kernel
theorem vm_o124 : vm_ok vm_m124 := ⟨10, rfl, vm_d124, vm_c124, by decide, rfl⟩
theorem vm_p124 : vm_mf vm_m124 := ⟨by decide +kernel, vm_r42 _ (List.mem_of_getElem? (i := 15) rfl), vm_r1 _ (List.mem_of_getElem? (i := 2) rfl), by decide +kernel, by decide +kernel⟩
set_option maxRecDepth 100000 in
theorem vm_c125 : ∀ q ∈ vm_k125, vm_chk 10 q = true := by decide +kernel
theorem vm_o125 : vm_ok vm_m125 := ⟨10, rfl, vm_d125, vm_c125, by decide, rfl⟩
theorem vm_p125 : vm_mf vm_m125 := ⟨by decide +kernel, vm_r19 _ (List.mem_of_getElem? (i := 19) rfl), vm_r1 _ (List.mem_of_getElem? (i := 2) rfl), by decide +kernel, by decide +kernel⟩
set_option maxRecDepth 100000 in
theorem vm_c126 : ∀ q ∈ vm_k126, vm_chk 10 q = true := by decide +kernel
theorem vm_o126 : vm_ok vm_m126 := ⟨10, rfl, vm_d126, vm_c126, by decide, rfl⟩
theorem vm_p126 : vm_mf vm_m126 := ⟨by decide +kernel, vm_r12 _ (List.mem_of_getElem? (i := 0) rfl), vm_r1 _ (List.mem_of_getElem? (i := 2) rfl), by decide +kernel, by decide +kernel⟩
set_option maxRecDepth 100000 in
theorem vm_c127 : ∀ q ∈ vm_k127, vm_chk 11 q = true := by decide +kernel
theorem vm_o127 : vm_ok vm_m127 := ⟨11, rfl, vm_d127, vm_c127, by decide, rfl⟩
theorem vm_p127 : vm_mf vm_m127 := ⟨by decide +kernel, vm_r14 _ (List.mem_of_getElem? (i := 12) rfl), vm_r1 _ (List.mem_of_getElem? (i := 5) rfl), by decide +kernel, by decide +kernel⟩
set_option maxRecDepth 100000 in
theorem vm_c128 : ∀ q ∈ vm_k128, vm_chk 11 q = true := by decide +kernel
theorem vm_o128 : vm_ok vm_m128 := ⟨11, rfl, vm_d128, vm_c128, by decide, rfl⟩
theorem vm_p128 : vm_mf vm_m128 := ⟨by decide +kernel, vm_r16 _ (List.mem_of_getElem? (i := 12) rfl), vm_r1 _ (List.mem_of_getElem? (i := 5) rfl), by decide +kernel, by decide +kernel⟩
set_option maxRecDepth 100000 in
theorem vm_c129 : ∀ q ∈ vm_k129, vm_chk 11 q = true := by decide +kernel
theorem vm_o129 : vm_ok vm_m129 := ⟨11, rfl, vm_d129, vm_c129, by decide, rfl⟩
theorem vm_p129 : vm_mf vm_m129 := ⟨by decide +kernel, vm_r38 _ (List.mem_of_getElem? (i := 2) rfl), vm_r1 _ (List.mem_of_getElem? (i := 5) rfl), by decide +kernel, by decide +kernel⟩
set_option maxRecDepth 100000 in
theorem vm_c130 : ∀ q ∈ vm_k130, vm_chk 11 q = true := by decide +kernel
theorem vm_o130 : vm_ok vm_m130 := ⟨11, rfl, vm_d130, vm_c130, by decide, rfl⟩
theorem vm_p130 : vm_mf vm_m130 := ⟨by decide +kernel, vm_r19 _ (List.mem_of_getElem? (i := 11) rfl), vm_r1 _ (List.mem_of_getElem? (i := 5) rfl), by decide +kernel, by decide +kernel⟩
set_option maxRecDepth 100000 in
theorem vm_c131 : ∀ q ∈ vm_k131, vm_chk 11 q = true := by decide +kernel
theorem vm_o131 : vm_ok vm_m131 := ⟨11, rfl, vm_d131, vm_c131, by decide, rfl⟩
theorem vm_p131 : vm_mf vm_m131 := ⟨by decide +kernel, vm_r15 _ (List.mem_of_getElem? (i := 9) rfl), vm_r1 _ (List.mem_of_getElem? (i := 5) rfl), by decide +kernel, by decide +kernel⟩
set_option maxRecDepth 100000 in
theorem vm_c132 : ∀ q ∈ vm_k132, vm_chk 11 q = true := by decide +kernel
theorem vm_o132 : vm_ok vm_m132 := ⟨11, rfl, vm_d132, vm_c132, by decide, rfl⟩
theorem vm_p132 : vm_mf vm_m132 := ⟨by decide +kernel, vm_r15 _ (List.mem_of_getElem? (i := 12) rfl), vm_r1 _ (List.mem_of_getElem? (i := 5) rfl), by decide +kernel, by decide +kernel⟩
set_option maxRecDepth 100000 in
theorem vm_c133 : ∀ q ∈ vm_k133, vm_chk 11 q = true := by decide +kernel
theorem vm_o133 : vm_ok vm_m133 := ⟨11, rfl, vm_d133, vm_c133, by decide, rfl⟩
theorem vm_p133 : vm_mf vm_m133 := ⟨by decide +kernel, vm_r15 _ (List.mem_of_getElem? (i := 16) rfl), vm_r1 _ (List.mem_of_getElem? (i := 5) rfl), by decide +kernel, by decide +kernel⟩
set_option maxRecDepth 100000 in
theorem vm_c134 : ∀ q ∈ vm_k134, vm_chk 11 q = true := by decide +kernel
theorem vm_o134 : vm_ok vm_m134 := ⟨11, rfl, vm_d134, vm_c134, by decide, rfl⟩
theorem vm_p134 : vm_mf vm_m134 := ⟨by decide +kernel, vm_r16 _ (List.mem_of_getElem? (i := 6) rfl), vm_r1 _ (List.mem_of_getElem? (i := 5) rfl), by decide +kernel, by decide +kernel⟩
set_option maxRecDepth 100000 in
theorem vm_c135 : ∀ q ∈ vm_k135, vm_chk 11 q = true := by decide +kernel
theorem vm_o135 : vm_ok vm_m135 := ⟨11, rfl, vm_d135, vm_c135, by decide, rfl⟩
theorem vm_p135 : vm_mf vm_m135 := ⟨by decide +kernel, vm_r16 _ (List.mem_of_getElem? (i := 20) rfl), vm_r1 _ (List.mem_of_getElem? (i := 5) rfl), by decide +kernel, by decide +kernel⟩
set_option maxRecDepth 100000 in
theorem vm_c136 : ∀ q ∈ vm_k136, vm_chk 11 q = true := by decide +kernel
theorem vm_o136 : vm_ok vm_m136 := ⟨11, rfl, vm_d136, vm_c136, by decide, rfl⟩
theorem vm_p136 : vm_mf vm_m136 := ⟨by decide +kernel, vm_r17 _ (List.mem_of_getElem? (i := 17) rfl), vm_r1 _ (List.mem_of_getElem? (i := 5) rfl), by decide +kernel, by decide +kernel⟩
set_option maxRecDepth 100000 in
theorem vm_c137 : ∀ q ∈ vm_k137, vm_chk 11 q = true := by decide +kernel
theorem vm_o137 : vm_ok vm_m137 := ⟨11, rfl, vm_d137, vm_c137, by decide, rfl⟩
theorem vm_p137 : vm_mf vm_m137 := ⟨by decide +kernel, vm_r18 _ (List.mem_of_getElem? (i := 19) rfl), vm_r1 _ (List.mem_of_getElem? (i := 5) rfl), by decide +kernel, by decide +kernel⟩
set_option maxRecDepth 100000 in
theorem vm_c138 : ∀ q ∈ vm_k138, vm_chk 11 q = true := by decide +kernel
theorem vm_o138 : vm_ok vm_m138 := ⟨11, rfl, vm_d138, vm_c138, by decide, rfl⟩
theorem vm_p138 : vm_mf vm_m138 := ⟨by decide +kernel, vm_r18 _ (List.mem_of_getElem? (i := 0) rfl), vm_r1 _ (List.mem_of_getElem? (i := 5) rfl), by decide +kernel, by decide +kernel⟩
set_option maxRecDepth 100000 in
theorem vm_c139 : ∀ q ∈ vm_k139, vm_chk 11 q = true := by decide +kernel
theorem vm_o139 : vm_ok vm_m139 := ⟨11, rfl, vm_d139, vm_c139, by decide, rfl⟩
theorem vm_p139 : vm_mf vm_m139 := ⟨by decide +kernel, vm_r18 _ (List.mem_of_getElem? (i := 11) rfl), vm_r1 _ (List.mem_of_getElem? (i := 5) rfl), by decide +kernel, by decide +kernel⟩
set_option maxRecDepth 100000 in
theorem vm_c140 : ∀ q ∈ vm_k140, vm_chk 11 q = true := by decide +kernel
theorem vm_o140 : vm_ok vm_m140 := ⟨11, rfl, vm_d140, vm_c140, by decide, rfl⟩
theorem vm_p140 : vm_mf vm_m140 := ⟨by decide +kernel, vm_r17 _ (List.mem_of_getElem? (i := 21) rfl), vm_r1 _ (List.mem_of_getElem? (i := 5) rfl), by decide +kernel, by decide +kernel⟩
set_option maxRecDepth 100000 in
theorem vm_c141 : ∀ q ∈ vm_k141, vm_chk 11 q = true := by decide +kernel
theorem vm_o141 : vm_ok vm_m141 := ⟨11, rfl, vm_d141, vm_c141, by decide, rfl⟩
theorem vm_p141 : vm_mf vm_m141 := ⟨by decide +kernel, vm_r18 _ (List.mem_of_getElem? (i := 6) rfl), vm_r1 _ (List.mem_of_getElem? (i := 5) rfl), by decide +kernel, by decide +kernel⟩
set_option maxRecDepth 100000 in
theorem vm_c142 : ∀ q ∈ vm_k142, vm_chk 11 q = true := by decide +kernel
theorem vm_o142 : vm_ok vm_m142 := ⟨11, rfl, vm_d142, vm_c142, by decide, rfl⟩
theorem vm_p142 : vm_mf vm_m142 := ⟨by decide +kernel, vm_r18 _ (List.mem_of_getElem? (i := 15) rfl), vm_r1 _ (List.mem_of_getElem? (i := 5) rfl), by decide +kernel, by decide +kernel⟩
set_option maxRecDepth 100000 in
theorem vm_c143 : ∀ q ∈ vm_k143, vm_chk 11 q = true := by decide +kernel
theorem vm_o143 : vm_ok vm_m143 := ⟨11, rfl, vm_d143, vm_c143, by decide, rfl⟩
theorem vm_p143 : vm_mf vm_m143 := ⟨by decide +kernel, vm_r17 _ (List.mem_of_getElem? (i := 13) rfl), vm_r1 _ (List.mem_of_getElem? (i := 5) rfl), by decide +kernel, by decide +kernel⟩
set_option maxRecDepth 100000 in
theorem vm_c144 : ∀ q ∈ vm_k144, vm_chk 11 q = true := by decide +kernel
theorem vm_o144 : vm_ok vm_m144 := ⟨11, rfl, vm_d144, vm_c144, by decide, rfl⟩
theorem vm_p144 : vm_mf vm_m144 := ⟨by decide +kernel, vm_r17 _ (List.mem_of_getElem? (i := 8) rfl), vm_r1 _ (List.mem_of_getElem? (i := 5) rfl), by decide +kernel, by decide +kernel⟩
set_option maxRecDepth 100000 in
theorem vm_c145 : ∀ q ∈ vm_k145, vm_chk 11 q = true := by decide +kernel
theorem vm_o145 : vm_ok vm_m145 := ⟨11, rfl, vm_d145, vm_c145, by decide, rfl⟩
theorem vm_p145 : vm_mf vm_m145 := ⟨by decide +kernel, vm_r17 _ (List.mem_of_getElem? (i := 4) rfl), vm_r1 _ (List.mem_of_getElem? (i := 5) rfl), by decide +kernel, by decide +kernel⟩
set_option maxRecDepth 100000 in
theorem vm_c146 : ∀ q ∈ vm_k146, vm_chk 11 q = true := by decide +kernel
theorem vm_o146 : vm_ok vm_m146 := ⟨11, rfl, vm_d146, vm_c146, by decide, rfl⟩
theorem vm_p146 : vm_mf vm_m146 := ⟨by decide +kernel, vm_r19 _ (List.mem_of_getElem? (i := 8) rfl), vm_r1 _ (List.mem_of_getElem? (i := 5) rfl), by decide +kernel, by decide +kernel⟩
set_option maxRecDepth 100000 in
theorem vm_c147 : ∀ q ∈ vm_k147, vm_chk 11 q = true := by decide +kernel
theorem vm_o147 : vm_ok vm_m147 := ⟨11, rfl, vm_d147, vm_c147, by decide, rfl⟩
theorem vm_p147 : vm_mf vm_m147 := ⟨by decide +kernel, vm_r19 _ (List.mem_of_getElem? (i := 4) rfl), vm_r1 _ (List.mem_of_getElem? (i := 5) rfl), by decide +kernel, by decide +kernel⟩
set_option maxRecDepth 100000 in
theorem vm_c148 : ∀ q ∈ vm_k148, vm_chk 11 q = true := by decide +kernel
theorem vm_o148 : vm_ok vm_m148 := ⟨11, rfl, vm_d148, vm_c148, by decide, rfl⟩
theorem vm_p148 : vm_mf vm_m148 := ⟨by decide +kernel, vm_r20 _ (List.mem_of_getElem? (i := 7) rfl), vm_r1 _ (List.mem_of_getElem? (i := 5) rfl), by decide +kernel, by decide +kernel⟩
set_option maxRecDepth 100000 in
theorem vm_c149 : ∀ q ∈ vm_k149, vm_chk 11 q = true := by decide +kernel
theorem vm_o149 : vm_ok vm_m149 := ⟨11, rfl, vm_d149, vm_c149, by decide, rfl⟩
theorem vm_p149 : vm_mf vm_m149 := ⟨by decide +kernel, vm_r20 _ (List.mem_of_getElem? (i := 10) rfl), vm_r1 _ (List.mem_of_getElem? (i := 5) rfl), by decide +kernel, by decide +kernel⟩
set_option maxRecDepth 100000 in
theorem vm_c150 : ∀ q ∈ vm_k150, vm_chk 11 q = true := by decide +kernel
theorem vm_o150 : vm_ok vm_m150 := ⟨11, rfl, vm_d150, vm_c150, by decide, rfl⟩
theorem vm_p150 : vm_mf vm_m150 := ⟨by decide +kernel, vm_r22 _ (List.mem_of_getElem? (i := 13) rfl), vm_r1 _ (List.mem_of_getElem? (i := 5) rfl), by decide +kernel, by decide +kernel⟩
set_option maxRecDepth 100000 in
theorem vm_c151 : ∀ q ∈ vm_k151, vm_chk 11 q = true := by decide +kernel
theorem vm_o151 : vm_ok vm_m151 := ⟨11, rfl, vm_d151, vm_c151, by decide, rfl⟩
theorem vm_p151 : vm_mf vm_m151 := ⟨by decide +kernel, vm_r20 _ (List.mem_of_getElem? (i := 15) rfl), vm_r1 _ (List.mem_of_getElem? (i := 5) rfl), by decide +kernel, by decide +kernel⟩
set_option maxRecDepth 100000 in
theorem vm_c152 : ∀ q ∈ vm_k152, vm_chk 11 q = true := by decide +kernel
theorem vm_o152 : vm_ok vm_m152 := ⟨11, rfl, vm_d152, vm_c152, by decide, rfl⟩
theorem vm_p152 : vm_mf vm_m152 := ⟨by decide +kernel, vm_r35 _ (List.mem_of_getElem? (i := 23) rfl), vm_r1 _ (List.mem_of_getElem? (i := 5) rfl), by decide +kernel, by decide +kernel⟩
set_option maxRecDepth 100000 in
theorem vm_c153 : ∀ q ∈ vm_k153, vm_chk 11 q = true := by decide +kernel
theorem vm_o153 : vm_ok vm_m153 := ⟨11, rfl, vm_d153, vm_c153, by decide, rfl⟩
theorem vm_p153 : vm_mf vm_m153 := ⟨by decide +kernel, vm_r21 _ (List.mem_of_getElem? (i := 16) rfl), vm_r1 _ (List.mem_of_getElem? (i := 5) rfl), by decide +kernel, by decide +kernel⟩
set_option maxRecDepth 100000 in
theorem vm_c154 : ∀ q ∈ vm_k154, vm_chk 11 q = true := by decide +kernel
theorem vm_o154 : vm_ok vm_m154 := ⟨11, rfl, vm_d154, vm_c154, by decide, rfl⟩
theorem vm_p154 : vm_mf vm_m154 := ⟨by decide +kernel, vm_r20 _ (List.mem_of_getElem? (i := 3) rfl), vm_r1 _ (List.mem_of_getElem? (i := 5) rfl), by decide +kernel, by decide +kernel⟩
set_option maxRecDepth 100000 in
theorem vm_c155 : ∀ q ∈ vm_k155, vm_chk 11 q = true := by decide +kernel
theorem vm_o155 : vm_ok vm_m155 := ⟨11, rfl, vm_d155, vm_c155, by decide, rfl⟩
theorem vm_p155 : vm_mf vm_m155 := ⟨by decide +kernel, vm_r21 _ (List.mem_of_getElem? (i := 11) rfl), vm_r1 _ (List.mem_of_getElem? (i := 5) rfl), by decide +kernel, by decide +kernel⟩
set_option maxRecDepth 100000 in
theorem vm_c156 : ∀ q ∈ vm_k156, vm_chk 11 q = true := by decide +kernel
theorem vm_o156 : vm_ok vm_m156 := ⟨11, rfl, vm_d156, vm_c156, by decide, rfl⟩
theorem vm_p156 : vm_mf vm_m156 := ⟨by decide +kernel, vm_r22 _ (List.mem_of_getElem? (i := 9) rfl), vm_r1 _ (List.mem_of_getElem? (i := 5) rfl), by decide +kernel, by decide +kernel⟩
set_option maxRecDepth 100000 in
theorem vm_c157 : ∀ q ∈ vm_k157, vm_chk 11 q = true := by decide +kernel
theorem vm_o157 : vm_ok vm_m157 := ⟨11, rfl, vm_d157, vm_c157, by decide, rfl⟩
theorem vm_p157 : vm_mf vm_m157 := ⟨by decide +kernel, vm_r25 _ (List.mem_of_getElem? (i := 19) rfl), vm_r1 _ (List.mem_of_getElem? (i := 5) rfl), by decide +kernel, by decide +kernel⟩
set_option maxRecDepth 100000 in
theorem vm_c158 : ∀ q ∈ vm_k158, vm_chk 11 q = true := by decide +kernel
theorem vm_o158 : vm_ok vm_m158 := ⟨11, rfl, vm_d158, vm_c158, by decide, rfl⟩
theorem vm_p158 : vm_mf vm_m158 := ⟨by decide +kernel, vm_r27 _ (List.mem_of_getElem? (i := 2) rfl), vm_r1 _ (List.mem_of_getElem? (i := 5) rfl), by decide +kernel, by decide +kernel⟩
set_option maxRecDepth 100000 in
theorem vm_c159 : ∀ q ∈ vm_k159, vm_chk 11 q = true := by decide +kernel
theorem vm_o159 : vm_ok vm_m159 := ⟨11, rfl, vm_d159, vm_c159, by decide, rfl⟩
theorem vm_p159 : vm_mf vm_m159 := ⟨by decide +kernel, vm_r29 _ (List.mem_of_getElem? (i := 2) rfl), vm_r1 _ (List.mem_of_getElem? (i := 5) rfl), by decide +kernel, by decide +kernel⟩
set_option maxRecDepth 100000 in
theorem vm_c160 : ∀ q ∈ vm_k160, vm_chk 11 q = true := by decide +kernel
theorem vm_o160 : vm_ok vm_m160 := ⟨11, rfl, vm_d160, vm_c160, by decide, rfl⟩
theorem vm_p160 : vm_mf vm_m160 := ⟨by decide +kernel, vm_r25 _ (List.mem_of_getElem? (i := 22) rfl), vm_r1 _ (List.mem_of_getElem? (i := 5) rfl), by decide +kernel, by decide +kernel⟩
set_option maxRecDepth 100000 in
theorem vm_c161 : ∀ q ∈ vm_k161, vm_chk 11 q = true := by decide +kernel
theorem vm_o161 : vm_ok vm_m161 := ⟨11, rfl, vm_d161, vm_c161, by decide, rfl⟩
theorem vm_p161 : vm_mf vm_m161 := ⟨by decide +kernel, vm_r25 _ (List.mem_of_getElem? (i := 8) rfl), vm_r1 _ (List.mem_of_getElem? (i := 5) rfl), by decide +kernel, by decide +kernel⟩
set_option maxRecDepth 100000 in
theorem vm_c162 : ∀ q ∈ vm_k162, vm_chk 11 q = true := by decide +kernel
theorem vm_o162 : vm_ok vm_m162 := ⟨11, rfl, vm_d162, vm_c162, by decide, rfl⟩
theorem vm_p162 : vm_mf vm_m162 := ⟨by decide +kernel, vm_r25 _ (List.mem_of_getElem? (i := 16) rfl), vm_r1 _ (List.mem_of_getElem? (i := 5) rfl), by decide +kernel, by decide +kernel⟩
set_option maxRecDepth 100000 in
theorem vm_c163 : ∀ q ∈ vm_k163, vm_chk 11 q = true := by decide +kernel
theorem vm_o163 : vm_ok vm_m163 := ⟨11, rfl, vm_d163, vm_c163, by decide, rfl⟩
theorem vm_p163 : vm_mf vm_m163 := ⟨by decide +kernel, vm_r26 _ (List.mem_of_getElem? (i := 23) rfl), vm_r1 _ (List.mem_of_getElem? (i := 5) rfl), by decide +kernel, by decide +kernel⟩
set_option maxRecDepth 100000 in
theorem vm_c164 : ∀ q ∈ vm_k164, vm_chk 11 q = true := by decide +kernel
theorem vm_o164 : vm_ok vm_m164 := ⟨11, rfl, vm_d164, vm_c164, by decide, rfl⟩
theorem vm_p164 : vm_mf vm_m164 := ⟨by decide +kernel, vm_r27 _ (List.mem_of_getElem? (i := 6) rfl), vm_r1 _ (List.mem_of_getElem? (i := 5) rfl), by decide +kernel, by decide +kernel⟩
set_option maxRecDepth 100000 in
theorem vm_c165 : ∀ q ∈ vm_k165, vm_chk 11 q = true := by decide +kernel
theorem vm_o165 : vm_ok vm_m165 := ⟨11, rfl, vm_d165, vm_c165, by decide, rfl⟩
theorem vm_p165 : vm_mf vm_m165 := ⟨by decide +kernel, vm_r25 _ (List.mem_of_getElem? (i := 12) rfl), vm_r1 _ (List.mem_of_getElem? (i := 5) rfl), by decide +kernel, by decide +kernel⟩
set_option maxRecDepth 100000 in
theorem vm_c166 : ∀ q ∈ vm_k166, vm_chk 11 q = true := by decide +kernel
theorem vm_o166 : vm_ok vm_m166 := ⟨11, rfl, vm_d166, vm_c166, by decide, rfl⟩
theorem vm_p166 : vm_mf vm_m166 := ⟨by decide +kernel, vm_r25 _ (List.mem_of_getElem? (i := 5) rfl), vm_r1 _ (List.mem_of_getElem? (i := 5) rfl), by decide +kernel, by decide +kernel⟩
set_option maxRecDepth 100000 in
theorem vm_c167 : ∀ q ∈ vm_k167, vm_chk 11 q = true := by decide +kernel
theorem vm_o167 : vm_ok vm_m167 := ⟨11, rfl, vm_d167, vm_c167, by decide, rfl⟩
theorem vm_p167 : vm_mf vm_m167 := ⟨by decide +kernel, vm_r26 _ (List.mem_of_getElem? (i := 18) rfl), vm_r1 _ (List.mem_of_getElem? (i := 5) rfl), by decide +kernel, by decide +kernel⟩
set_option maxRecDepth 100000 in
theorem vm_c168 : ∀ q ∈ vm_k168, vm_chk 11 q = true := by decide +kernel
theorem vm_o168 : vm_ok vm_m168 := ⟨11, rfl, vm_d168, vm_c168, by decide, rfl⟩
theorem vm_p168 : vm_mf vm_m168 := ⟨by decide +kernel, vm_r28 _ (List.mem_of_getElem? (i := 5) rfl), vm_r1 _ (List.mem_of_getElem? (i := 5) rfl), by decide +kernel, by decide +kernel⟩
set_option maxRecDepth 100000 in
theorem vm_c169 : ∀ q ∈ vm_k169, vm_chk 11 q = true := by decide +kernel
theorem vm_o169 : vm_ok vm_m169 := ⟨11, rfl, vm_d169, vm_c169, by decide, rfl⟩
theorem vm_p169 : vm_mf vm_m169 := ⟨by decide +kernel, vm_r28 _ (List.mem_of_getElem? (i := 8) rfl), vm_r1 _ (List.mem_of_getElem? (i := 5) rfl), by decide +kernel, by decide +kernel⟩
set_option maxRecDepth 100000 in
theorem vm_c170 : ∀ q ∈ vm_k170, vm_chk 11 q = true := by decide +kernel
theorem vm_o170 : vm_ok vm_m170 := ⟨11, rfl, vm_d170, vm_c170, by decide, rfl⟩
theorem vm_p170 : vm_mf vm_m170 := ⟨by decide +kernel, vm_r28 _ (List.mem_of_getElem? (i := 2) rfl), vm_r1 _ (List.mem_of_getElem? (i := 5) rfl), by decide +kernel, by decide +kernel⟩
set_option maxRecDepth 100000 in
theorem vm_c171 : ∀ q ∈ vm_k171, vm_chk 11 q = true := by decide +kernel
theorem vm_o171 : vm_ok vm_m171 := ⟨11, rfl, vm_d171, vm_c171, by decide, rfl⟩
theorem vm_p171 : vm_mf vm_m171 := ⟨by decide +kernel, vm_r28 _ (List.mem_of_getElem? (i := 22) rfl), vm_r1 _ (List.mem_of_getElem? (i := 5) rfl), by decide +kernel, by decide +kernel⟩
set_option maxRecDepth 100000 in
theorem vm_c172 : ∀ q ∈ vm_k172, vm_chk 11 q = true := by decide +kernel
theorem vm_o172 : vm_ok vm_m172 := ⟨11, rfl, vm_d172, vm_c172, by decide, rfl⟩
theorem vm_p172 : vm_mf vm_m172 := ⟨by decide +kernel, vm_r29 _ (List.mem_of_getElem? (i := 22) rfl), vm_r1 _ (List.mem_of_getElem? (i := 5) rfl), by decide +kernel, by decide +kernel⟩
set_option maxRecDepth 100000 in
theorem vm_c173 : ∀ q ∈ vm_k173, vm_chk 11 q = true := by decide +kernel
theorem vm_o173 : vm_ok vm_m173 := ⟨11, rfl, vm_d173, vm_c173, by decide, rfl⟩
theorem vm_p173 : vm_mf vm_m173 := ⟨by decide +kernel, vm_r29 _ (List.mem_of_getElem? (i := 18) rfl), vm_r1 _ (List.mem_of_getElem? (i := 5) rfl), by decide +kernel, by decide +kernel⟩
set_option maxRecDepth 100000 in
theorem vm_c174 : ∀ q ∈ vm_k174, vm_chk 11 q = true := by decide +kernel
theorem vm_o174 : vm_ok vm_m174 := ⟨11, rfl, vm_d174, vm_c174, by decide, rfl⟩
theorem vm_p174 : vm_mf vm_m174 := ⟨by decide +kernel, vm_r30 _ (List.mem_of_getElem? (i := 14) rfl), vm_r1 _ (List.mem_of_getElem? (i := 5) rfl), by decide +kernel, by decide +kernel⟩
set_option maxRecDepth 100000 in
theorem vm_c175 : ∀ q ∈ vm_k175, vm_chk 11 q = true := by decide +kernel
theorem vm_o175 : vm_ok vm_m175 := ⟨11, rfl, vm_d175, vm_c175, by decide, rfl⟩
theorem vm_p175 : vm_mf vm_m175 := ⟨by decide +kernel, vm_r31 _ (List.mem_of_getElem? (i := 2) rfl), vm_r1 _ (List.mem_of_getElem? (i := 5) rfl), by decide +kernel, by decide +kernel⟩
set_option maxRecDepth 100000 in
theorem vm_c176 : ∀ q ∈ vm_k176, vm_chk 11 q = true := by decide +kernel
theorem vm_o176 : vm_ok vm_m176 := ⟨11, rfl, vm_d176, vm_c176, by decide, rfl⟩
theorem vm_p176 : vm_mf vm_m176 := ⟨by decide +kernel, vm_r33 _ (List.mem_of_getElem? (i := 0) rfl), vm_r1 _ (List.mem_of_getElem? (i := 5) rfl), by decide +kernel, by decide +kernel⟩
set_option maxRecDepth 100000 in
theorem vm_c177 : ∀ q ∈ vm_k177, vm_chk 11 q = true := by decide +kernel
theorem vm_o177 : vm_ok vm_m177 := ⟨11, rfl, vm_d177, vm_c177, by decide, rfl⟩
theorem vm_p177 : vm_mf vm_m177 := ⟨by decide +kernel, vm_r33 _ (List.mem_of_getElem? (i := 8) rfl), vm_r1 _ (List.mem_of_getElem? (i := 5) rfl), by decide +kernel, by decide +kernel⟩
set_option maxRecDepth 100000 in
theorem vm_c178 : ∀ q ∈ vm_k178, vm_chk 11 q = true := by decide +kernel
theorem vm_o178 : vm_ok vm_m178 := ⟨11, rfl, vm_d178, vm_c178, by decide, rfl⟩
theorem vm_p178 : vm_mf vm_m178 := ⟨by decide +kernel, vm_r33 _ (List.mem_of_getElem? (i := 12) rfl), vm_r1 _ (List.mem_of_getElem? (i := 5) rfl), by decide +kernel, by decide +kernel⟩
set_option maxRecDepth 100000 in
theorem vm_c179 : ∀ q ∈ vm_k179, vm_chk 11 q = true := by decide +kernel
theorem vm_o179 : vm_ok vm_m179 := ⟨11, rfl, vm_d179, vm_c179, by decide, rfl⟩
theorem vm_p179 : vm_mf vm_m179 := ⟨by decide +kernel, vm_r33 _ (List.mem_of_getElem? (i := 4) rfl), vm_r1 _ (List.mem_of_getElem? (i := 5) rfl), by decide +kernel, by decide +kernel⟩
set_option maxRecDepth 100000 in
theorem vm_c180 : ∀ q ∈ vm_k180, vm_chk 11 q = true := by decide +kernel
theorem vm_o180 : vm_ok vm_m180 := ⟨11, rfl, vm_d180, vm_c180, by decide, rfl⟩
theorem vm_p180 : vm_mf vm_m180 := ⟨by decide +kernel, vm_r32 _ (List.mem_of_getElem? (i := 18) rfl), vm_r1 _ (List.mem_of_getElem? (i := 5) rfl), by decide +kernel, by decide +kernel⟩
set_option maxRecDepth 100000 in
theorem vm_c181 : ∀ q ∈ vm_k181, vm_chk 11 q = true := by decide +kernel
theorem vm_o181 : vm_ok vm_m181 := ⟨11, rfl, vm_d181, vm_c181, by decide, rfl⟩
theorem vm_p181 : vm_mf vm_m181 := ⟨by decide +kernel, vm_r35 _ (List.mem_of_getElem? (i := 19) rfl), vm_r1 _ (List.mem_of_getElem? (i := 5) rfl), by decide +kernel, by decide +kernel⟩
set_option maxRecDepth 100000 in
theorem vm_c182 : ∀ q ∈ vm_k182, vm_chk 11 q = true := by decide +kernel
theorem vm_o182 : vm_ok vm_m182 := ⟨11, rfl, vm_d182, vm_c182, by decide, rfl⟩
theorem vm_p182 : vm_mf vm_m182 := ⟨by decide +kernel, vm_r35 _ (List.mem_of_getElem? (i := 15) rfl), vm_r1 _ (List.mem_of_getElem? (i := 5) rfl), by decide +kernel, by decide +kernel⟩
set_option maxRecDepth 100000 in
theorem vm_c183 : ∀ q ∈ vm_k183, vm_chk 11 q = true := by decide +kernel
theorem vm_o183 : vm_ok vm_m183 := ⟨11, rfl, vm_d183, vm_c183, by decide, rfl⟩
theorem vm_p183 : vm_mf vm_m183 := ⟨by decide +kernel, vm_r35 _ (List.mem_of_getElem? (i := 11) rfl), vm_r1 _ (List.mem_of_getElem? (i := 5) rfl), by decide +kernel, by decide +kernel⟩
set_option maxRecDepth 100000 in
theorem vm_c184 : ∀ q ∈ vm_k184, vm_chk 11 q = true := by decide +kernel
theorem vm_o184 : vm_ok vm_m184 := ⟨11, rfl, vm_d184, vm_c184, by decide, rfl⟩
theorem vm_p184 : vm_mf vm_m184 := ⟨by decide +kernel, vm_r37 _ (List.mem_of_getElem? (i := 10) rfl), vm_r1 _ (List.mem_of_getElem? (i := 5) rfl), by decide +kernel, by decide +kernel⟩
set_option maxRecDepth 100000 in
theorem vm_c185 : ∀ q ∈ vm_k185, vm_chk 11 q = true := by decide +kernel
theorem vm_o185 : vm_ok vm_m185 := ⟨11, rfl, vm_d185, vm_c185, by decide, rfl⟩
theorem vm_p185 : vm_mf vm_m185 := ⟨by decide +kernel, vm_r37 _ (List.mem_of_getElem? (i := 14) rfl), vm_r1 _ (List.mem_of_getElem? (i := 5) rfl), by decide +kernel, by decide +kernel⟩
set_option maxRecDepth 100000 in
theorem vm_c186 : ∀ q ∈ vm_k186, vm_chk 11 q = true := by decide +kernel
theorem vm_o186 : vm_ok vm_m186 := ⟨11, rfl, vm_d186, vm_c186, by decide, rfl⟩
theorem vm_p186 : vm_mf vm_m186 := ⟨by decide +kernel, vm_r37 _ (List.mem_of_getElem? (i := 6) rfl), vm_r1 _ (List.mem_of_getElem? (i := 5) rfl), by decide +kernel, by decide +kernel⟩
set_option maxRecDepth 100000 in
theorem vm_c187 : ∀ q ∈ vm_k187, vm_chk 11 q = true := by decide +kernel
theorem vm_o187 : vm_ok vm_m187 := ⟨11, rfl, vm_d187, vm_c187, by decide, rfl⟩
theorem vm_p187 : vm_mf vm_m187 := ⟨by decide +kernel, vm_r37 _ (List.mem_of_getElem? (i := 23) rfl), vm_r1 _ (List.mem_of_getElem? (i := 5) rfl), by decide +kernel, by decide +kernel⟩
set_option maxRecDepth 100000 in
theorem vm_c188 : ∀ q ∈ vm_k188, vm_chk 11 q = true := by decide +kernel
theorem vm_o188 : vm_ok vm_m188 := ⟨11, rfl, vm_d188, vm_c188, by decide, rfl⟩
theorem vm_p188 : vm_mf vm_m188 := ⟨by decide +kernel, vm_r38 _ (List.mem_of_getElem? (i := 18) rfl), vm_r1 _ (List.mem_of_getElem? (i := 5) rfl), by decide +kernel, by decide +kernel⟩
set_option maxRecDepth 100000 in
theorem vm_c189 : ∀ q ∈ vm_k189, vm_chk 11 q = true := by decide +kernel
theorem vm_o189 : vm_ok vm_m189 := ⟨11, rfl, vm_d189, vm_c189, by decide, rfl⟩
theorem vm_p189 : vm_mf vm_m189 := ⟨by decide +kernel, vm_r38 _ (List.mem_of_getElem? (i := 14) rfl), vm_r1 _ (List.mem_of_getElem? (i := 5) rfl), by decide +kernel, by decide +kernel⟩
set_option maxRecDepth 100000 in
theorem vm_c190 : ∀ q ∈ vm_k190, vm_chk 11 q = true := by decide +kernel
theorem vm_o190 : vm_ok vm_m190 := ⟨11, rfl, vm_d190, vm_c190, by decide, rfl⟩
theorem vm_p190 : vm_mf vm_m190 := ⟨by decide +kernel, vm_r39 _ (List.mem_of_getElem? (i := 2) rfl), vm_r1 _ (List.mem_of_getElem? (i := 5) rfl), by decide +kernel, by decide +kernel⟩
set_option maxRecDepth 100000 in
theorem vm_c191 : ∀ q ∈ vm_k191, vm_chk 11 q = true := by decide +kernel
theorem vm_o191 : vm_ok vm_m191 := ⟨11, rfl, vm_d191, vm_c191, by decide, rfl⟩
theorem vm_p191 : vm_mf vm_m191 := ⟨by decide +kernel, vm_r39 _ (List.mem_of_getElem? (i := 10) rfl), vm_r1 _ (List.mem_of_getElem? (i := 5) rfl), by decide +kernel, by decide +kernel⟩
set_option maxRecDepth 100000 in
theorem vm_c192 : ∀ q ∈ vm_k192, vm_chk 11 q = true := by decide +kernel
theorem vm_o192 : vm_ok vm_m192 := ⟨11, rfl, vm_d192, vm_c192, by decide, rfl⟩
theorem vm_p192 : vm_mf vm_m192 := ⟨by decide +kernel, vm_r40 _ (List.mem_of_getElem? (i := 2) rfl), vm_r1 _ (List.mem_of_getElem? (i := 5) rfl), by decide +kernel, by decide +kernel⟩
set_option maxRecDepth 100000 in
theorem vm_c193 : ∀ q ∈ vm_k193, vm_chk 11 q = true := by decide +kernel
theorem vm_o193 : vm_ok vm_m193 := ⟨11, rfl, vm_d193, vm_c193, by decide, rfl⟩
theorem vm_p193 : vm_mf vm_m193 := ⟨by decide +kernel, vm_r40 _ (List.mem_of_getElem? (i := 20) rfl), vm_r1 _ (List.mem_of_getElem? (i := 5) rfl), by decide +kernel, by decide +kernel⟩
set_option maxRecDepth 100000 in
theorem vm_c194 : ∀ q ∈ vm_k194, vm_chk 11 q = true := by decide +kernel
theorem vm_o194 : vm_ok vm_m194 := ⟨11, rfl, vm_d194, vm_c194, by decide, rfl⟩
theorem vm_p194 : vm_mf vm_m194 := ⟨by decide +kernel, vm_r42 _ (List.mem_of_getElem? (i := 8) rfl), vm_r1 _ (List.mem_of_getElem? (i := 5) rfl), by decide +kernel, by decide +kernel⟩
set_option maxRecDepth 100000 in
theorem vm_c195 : ∀ q ∈ vm_k195, vm_chk 11 q = true := by decide +kernel
theorem vm_o195 : vm_ok vm_m195 := ⟨11, rfl, vm_d195, vm_c195, by decide, rfl⟩
theorem vm_p195 : vm_mf vm_m195 := ⟨by decide +kernel, vm_r42 _ (List.mem_of_getElem? (i := 4) rfl), vm_r1 _ (List.mem_of_getElem? (i := 5) rfl), by decide +kernel, by decide +kernel⟩
set_option maxRecDepth 100000 in
theorem vm_c196 : ∀ q ∈ vm_k196, vm_chk 11 q = true := by decide +kernel
theorem vm_o196 : vm_ok vm_m196 := ⟨11, rfl, vm_d196, vm_c196, by decide, rfl⟩
theorem vm_p196 : vm_mf vm_m196 := ⟨by decide +kernel, vm_r43 _ (List.mem_of_getElem? (i := 19) rfl), vm_r1 _ (List.mem_of_getElem? (i := 5) rfl), by decide +kernel, by decide +kernel⟩
set_option maxRecDepth 100000 in
theorem vm_c197 : ∀ q ∈ vm_k197, vm_chk 11 q = true := by decide +kernel
theorem vm_o197 : vm_ok vm_m197 := ⟨11, rfl, vm_d197, vm_c197, by decide, rfl⟩
theorem vm_p197 : vm_mf vm_m197 := ⟨by decide +kernel, vm_r43 _ (List.mem_of_getElem? (i := 11) rfl), vm_r1 _ (List.mem_of_getElem? (i := 5) rfl), by decide +kernel, by decide +kernel⟩
set_option maxRecDepth 100000 in
theorem vm_c198 : ∀ q ∈ vm_k198, vm_chk 11 q = true := by decide +kernel
theorem vm_o198 : vm_ok vm_m198 := ⟨11, rfl, vm_d198, vm_c198, by decide, rfl⟩
theorem vm_p198 : vm_mf vm_m198 := ⟨by decide +kernel, vm_r44 _ (List.mem_of_getElem? (i := 4) rfl), vm_r1 _ (List.mem_of_getElem? (i := 5) rfl), by decide +kernel, by decide +kernel⟩
set_option maxRecDepth 100000 in
theorem vm_c199 : ∀ q ∈ vm_k199, vm_chk 11 q = true := by decide +kernel
theorem vm_o199 : vm_ok vm_m199 := ⟨11, rfl, vm_d199, vm_c199, by decide, rfl⟩
theorem vm_p199 : vm_mf vm_m199 := ⟨by decide +kernel, vm_r44 _ (List.mem_of_getElem? (i := 12) rfl), vm_r1 _ (List.mem_of_getElem? (i := 5) rfl), by decide +kernel, by decide +kernel⟩
set_option maxRecDepth 100000 in
theorem vm_c200 : ∀ q ∈ vm_k200, vm_chk 11 q = true := by decide +kernel
theorem vm_o200 : vm_ok vm_m200 := ⟨11, rfl, vm_d200, vm_c200, by decide, rfl⟩
theorem vm_p200 : vm_mf vm_m200 := ⟨by decide +kernel, vm_r45 _ (List.mem_of_getElem? (i := 8) rfl), vm_r1 _ (List.mem_of_getElem? (i := 5) rfl), by decide +kernel, by decide +kernel⟩
set_option maxRecDepth 100000 in
theorem vm_c201 : ∀ q ∈ vm_k201, vm_chk 11 q = true := by decide +kernel
theorem vm_o201 : vm_ok vm_m201 := ⟨11, rfl, vm_d201, vm_c201, by decide, rfl⟩
theorem vm_p201 : vm_mf vm_m201 := ⟨by decide +kernel, vm_r45 _ (List.mem_of_getElem? (i := 4) rfl), vm_r1 _ (List.mem_of_getElem? (i := 5) rfl), by decide +kernel, by decide +kernel⟩
set_option maxRecDepth 100000 in
theorem vm_c202 : ∀ q ∈ vm_k202, vm_chk 13 q = true := by decide +kernel
theorem vm_o202 : vm_ok vm_m202 := ⟨13, rfl, vm_d202, vm_c202, by decide, rfl⟩
theorem vm_p202 : vm_mf vm_m202 := ⟨by decide +kernel, vm_r3 _ (List.mem_of_getElem? (i := 10) rfl), vm_r3 _ (List.mem_of_getElem? (i := 9) rfl), by decide +kernel, by decide +kernel⟩
set_option maxRecDepth 100000 in
theorem vm_c203 : ∀ q ∈ vm_k203, vm_chk 13 q = true := by decide +kernel
theorem vm_o203 : vm_ok vm_m203 := ⟨13, rfl, vm_d203, vm_c203, by decide, rfl⟩
theorem vm_p203 : vm_mf vm_m203 := ⟨by decide +kernel, vm_r24 _ (List.mem_of_getElem? (i := 16) rfl), vm_r3 _ (List.mem_of_getElem? (i := 9) rfl), by decide +kernel, by decide +kernel⟩
set_option maxRecDepth 100000 in
theorem vm_c204 : ∀ q ∈ vm_k204, vm_chk 13 q = true := by decide +kernel
theorem vm_o204 : vm_ok vm_m204 := ⟨13, rfl, vm_d204, vm_c204, by decide, rfl⟩
theorem vm_p204 : vm_mf vm_m204 := ⟨by decide +kernel, vm_r21 _ (List.mem_of_getElem? (i := 7) rfl), vm_r3 _ (List.mem_of_getElem? (i := 9) rfl), by decide +kernel, by decide +kernel⟩
set_option maxRecDepth 100000 in
theorem vm_c205 : ∀ q ∈ vm_k205, vm_chk 12 q = true := by decide +kernel
theorem vm_o205 : vm_ok vm_m205 := ⟨12, rfl, vm_d205, vm_c205, by decide, rfl⟩
theorem vm_MTo_0 : ∀ q ∈ ([vm_m0, vm_m1, vm_m2, vm_m3, vm_m4, vm_m5, vm_m6, vm_m7, vm_m8, vm_m9, vm_m10, vm_m11, vm_m12, vm_m13, vm_m14, vm_m15] : List vm_M), vm_ok q := List.forall_mem_cons.mpr ⟨vm_o0, List.forall_mem_cons.mpr ⟨vm_o1, List.forall_mem_cons.mpr ⟨vm_o2, List.forall_mem_cons.mpr ⟨vm_o3, List.forall_mem_cons.mpr ⟨vm_o4, List.forall_mem_cons.mpr ⟨vm_o5, List.forall_mem_cons.mpr ⟨vm_o6, List.forall_mem_cons.mpr ⟨vm_o7, List.forall_mem_cons.mpr ⟨vm_o8, List.forall_mem_cons.mpr ⟨vm_o9, List.forall_mem_cons.mpr ⟨vm_o10, List.forall_mem_cons.mpr ⟨vm_o11, List.forall_mem_cons.mpr ⟨vm_o12, List.forall_mem_cons.mpr ⟨vm_o13, List.forall_mem_cons.mpr ⟨vm_o14, List.forall_mem_cons.mpr ⟨vm_o15, fun _ h => absurd h List.not_mem_nil⟩⟩⟩⟩⟩⟩⟩⟩⟩⟩⟩⟩⟩⟩⟩⟩
theorem vm_MTo_1 : ∀ q ∈ ([vm_m16, vm_m17, vm_m18, vm_m19, vm_m20, vm_m21, vm_m22, vm_m23, vm_m24, vm_m25, vm_m26, vm_m27, vm_m28, vm_m29, vm_m30, vm_m31] : List vm_M), vm_ok q := List.forall_mem_cons.mpr ⟨vm_o16, List.forall_mem_cons.mpr ⟨vm_o17, List.forall_mem_cons.mpr ⟨vm_o18, List.forall_mem_cons.mpr ⟨vm_o19, List.forall_mem_cons.mpr ⟨vm_o20, List.forall_mem_cons.mpr ⟨vm_o21, List.forall_mem_cons.mpr ⟨vm_o22, List.forall_mem_cons.mpr ⟨vm_o23, List.forall_mem_cons.mpr ⟨vm_o24, List.forall_mem_cons.mpr ⟨vm_o25, List.forall_mem_cons.mpr ⟨vm_o26, List.forall_mem_cons.mpr ⟨vm_o27, List.forall_mem_cons.mpr ⟨vm_o28, List.forall_mem_cons.mpr ⟨vm_o29, List.forall_mem_cons.mpr ⟨vm_o30, List.forall_mem_cons.mpr ⟨vm_o31, fun _ h => absurd h List.not_mem_nil⟩⟩⟩⟩⟩⟩⟩⟩⟩⟩⟩⟩⟩⟩⟩⟩
theorem vm_MTo_2 : ∀ q ∈ ([vm_m32, vm_m33, vm_m34, vm_m35, vm_m36, vm_m37, vm_m38, vm_m39, vm_m40, vm_m41, vm_m42, vm_m43, vm_m44, vm_m45, vm_m46, vm_m47] : List vm_M), vm_ok q := List.forall_mem_cons.mpr ⟨vm_o32, List.forall_mem_cons.mpr ⟨vm_o33, List.forall_mem_cons.mpr ⟨vm_o34, List.forall_mem_cons.mpr ⟨vm_o35, List.forall_mem_cons.mpr ⟨vm_o36, List.forall_mem_cons.mpr ⟨vm_o37, List.forall_mem_cons.mpr ⟨vm_o38, List.forall_mem_cons.mpr ⟨vm_o39, List.forall_mem_cons.mpr ⟨vm_o40, List.forall_mem_cons.mpr ⟨vm_o41, List.forall_mem_cons.mpr ⟨vm_o42, List.forall_mem_cons.mpr ⟨vm_o43, List.forall_mem_cons.mpr ⟨vm_o44, List.forall_mem_cons.mpr ⟨vm_o45, List.forall_mem_cons.mpr ⟨vm_o46, List.forall_mem_cons.mpr ⟨vm_o47, fun _ h => absurd h List.not_mem_nil⟩⟩⟩⟩⟩⟩⟩⟩⟩⟩⟩⟩⟩⟩⟩⟩
theorem vm_MTo_3 : ∀ q ∈ ([vm_m48, vm_m49, vm_m50, vm_m51, vm_m52, vm_m53, vm_m54, vm_m55, vm_m56, vm_m57, vm_m58, vm_m59, vm_m60, vm_m61, vm_m62, vm_m63] : List vm_M), vm_ok q := List.forall_mem_cons.mpr ⟨vm_o48, List.forall_mem_cons.mpr ⟨vm_o49, List.forall_mem_cons.mpr ⟨vm_o50, List.forall_mem_cons.mpr ⟨vm_o51, List.forall_mem_cons.mpr ⟨vm_o52, List.forall_mem_cons.mpr ⟨vm_o53, List.forall_mem_cons.mpr ⟨vm_o54, List.forall_mem_cons.mpr ⟨vm_o55, List.forall_mem_cons.mpr ⟨vm_o56, List.forall_mem_cons.mpr ⟨vm_o57, List.forall_mem_cons.mpr ⟨vm_o58, List.forall_mem_cons.mpr ⟨vm_o59, List.forall_mem_cons.mpr ⟨vm_o60, List.forall_mem_cons.mpr ⟨vm_o61, List.forall_mem_cons.mpr ⟨vm_o62, List.forall_mem_cons.mpr ⟨vm_o63, fun _ h => absurd h List.not_mem_nil⟩⟩⟩⟩⟩⟩⟩⟩⟩⟩⟩⟩⟩⟩⟩⟩
theorem vm_MTo_4 : ∀ q ∈ ([vm_m64, vm_m65, vm_m66, vm_m67, vm_m68, vm_m69, vm_m70, vm_m71, vm_m72, vm_m73, vm_m74, vm_m75, vm_m76, vm_m77, vm_m78, vm_m79] : List vm_M), vm_ok q := List.forall_mem_cons.mpr ⟨vm_o64, List.forall_mem_cons.mpr ⟨vm_o65, List.forall_mem_cons.mpr ⟨vm_o66, List.forall_mem_cons.mpr ⟨vm_o67, List.forall_mem_cons.mpr ⟨vm_o68, List.forall_mem_cons.mpr ⟨vm_o69, List.forall_mem_cons.mpr ⟨vm_o70, List.forall_mem_cons.mpr ⟨vm_o71, List.forall_mem_cons.mpr ⟨vm_o72, List.forall_mem_cons.mpr ⟨vm_o73, List.forall_mem_cons.mpr ⟨vm_o74, List.forall_mem_cons.mpr ⟨vm_o75, List.forall_mem_cons.mpr ⟨vm_o76, List.forall_mem_cons.mpr ⟨vm_o77, List.forall_mem_cons.mpr ⟨vm_o78, List.forall_mem_cons.mpr ⟨vm_o79, fun _ h => absurd h List.not_mem_nil⟩⟩⟩⟩⟩⟩⟩⟩⟩⟩⟩⟩⟩⟩⟩⟩
theorem vm_MTo_5 : ∀ q ∈ ([vm_m80, vm_m81, vm_m82, vm_m83, vm_m84, vm_m85, vm_m86, vm_m87, vm_m88, vm_m89, vm_m90, vm_m91, vm_m92, vm_m93, vm_m94, vm_m95] : List vm_M), vm_ok q := List.forall_mem_cons.mpr ⟨vm_o80, List.forall_mem_cons.mpr ⟨vm_o81, List.forall_mem_cons.mpr ⟨vm_o82, List.forall_mem_cons.mpr ⟨vm_o83, List.forall_mem_cons.mpr ⟨vm_o84, List.forall_mem_cons.mpr ⟨vm_o85, List.forall_mem_cons.mpr ⟨vm_o86, List.forall_mem_cons.mpr ⟨vm_o87, List.forall_mem_cons.mpr ⟨vm_o88, List.forall_mem_cons.mpr ⟨vm_o89, List.forall_mem_cons.mpr ⟨vm_o90, List.forall_mem_cons.mpr ⟨vm_o91, List.forall_mem_cons.mpr ⟨vm_o92, List.forall_mem_cons.mpr ⟨vm_o93, List.forall_mem_cons.mpr ⟨vm_o94, List.forall_mem_cons.mpr ⟨vm_o95, fun _ h => absurd h List.not_mem_nil⟩⟩⟩⟩⟩⟩⟩⟩⟩⟩⟩⟩⟩⟩⟩⟩
theorem vm_MTo_6 : ∀ q ∈ ([vm_m96, vm_m97, vm_m98, vm_m99, vm_m100, vm_m101, vm_m102, vm_m103, vm_m104, vm_m105, vm_m106, vm_m107, vm_m108, vm_m109, vm_m110, vm_m111] : List vm_M), vm_ok q := List.forall_mem_cons.mpr ⟨vm_o96, List.forall_mem_cons.mpr ⟨vm_o97, List.forall_mem_cons.mpr ⟨vm_o98, List.forall_mem_cons.mpr ⟨vm_o99, List.forall_mem_cons.mpr ⟨vm_o100, List.forall_mem_cons.mpr ⟨vm_o101, List.forall_mem_cons.mpr ⟨vm_o102, List.forall_mem_cons.mpr ⟨vm_o103, List.forall_mem_cons.mpr ⟨vm_o104, List.forall_mem_cons.mpr ⟨vm_o105, List.forall_mem_cons.mpr ⟨vm_o106, List.forall_mem_cons.mpr ⟨vm_o107, List.forall_mem_cons.mpr ⟨vm_o108, List.forall_mem_cons.mpr ⟨vm_o109, List.forall_mem_cons.mpr ⟨vm_o110, List.forall_mem_cons.mpr ⟨vm_o111, fun _ h => absurd h List.not_mem_nil⟩⟩⟩⟩⟩⟩⟩⟩⟩⟩⟩⟩⟩⟩⟩⟩
theorem vm_MTo_7 : ∀ q ∈ ([vm_m112, vm_m113, vm_m114, vm_m115, vm_m116, vm_m117, vm_m118, vm_m119, vm_m120, vm_m121, vm_m122, vm_m123, vm_m124, vm_m125, vm_m126, vm_m127] : List vm_M), vm_ok q := List.forall_mem_cons.mpr ⟨vm_o112, List.forall_mem_cons.mpr ⟨vm_o113, List.forall_mem_cons.mpr ⟨vm_o114, List.forall_mem_cons.mpr ⟨vm_o115, List.forall_mem_cons.mpr ⟨vm_o116, List.forall_mem_cons.mpr ⟨vm_o117, List.forall_mem_cons.mpr ⟨vm_o118, List.forall_mem_cons.mpr ⟨vm_o119, List.forall_mem_cons.mpr ⟨vm_o120, List.forall_mem_cons.mpr ⟨vm_o121, List.forall_mem_cons.mpr ⟨vm_o122, List.forall_mem_cons.mpr ⟨vm_o123, List.forall_mem_cons.mpr ⟨vm_o124, List.forall_mem_cons.mpr ⟨vm_o125, List.forall_mem_cons.mpr ⟨vm_o126, List.forall_mem_cons.mpr ⟨vm_o127, fun _ h => absurd h List.not_mem_nil⟩⟩⟩⟩⟩⟩⟩⟩⟩⟩⟩⟩⟩⟩⟩⟩
theorem vm_MTo_8 : ∀ q ∈ ([vm_m128, vm_m129, vm_m130, vm_m131, vm_m132, vm_m133, vm_m134, vm_m135, vm_m136, vm_m137, vm_m138, vm_m139, vm_m140, vm_m141, vm_m142, vm_m143] : List vm_M), vm_ok q := List.forall_mem_cons.mpr ⟨vm_o128, List.forall_mem_cons.mpr ⟨vm_o129, List.forall_mem_cons.mpr ⟨vm_o130, List.forall_mem_cons.mpr ⟨vm_o131, List.forall_mem_cons.mpr ⟨vm_o132, List.forall_mem_cons.mpr ⟨vm_o133, List.forall_mem_cons.mpr ⟨vm_o134, List.forall_mem_cons.mpr ⟨vm_o135, List.forall_mem_cons.mpr ⟨vm_o136, List.forall_mem_cons.mpr ⟨vm_o137, List.forall_mem_cons.mpr ⟨vm_o138, List.forall_mem_cons.mpr ⟨vm_o139, List.forall_mem_cons.mpr ⟨vm_o140, List.forall_mem_cons.mpr ⟨vm_o141, List.forall_mem_cons.mpr ⟨vm_o142, List.forall_mem_cons.mpr ⟨vm_o143, fun _ h => absurd h List.not_mem_nil⟩⟩⟩⟩⟩⟩⟩⟩⟩⟩⟩⟩⟩⟩⟩⟩
theorem vm_MTo_9 : ∀ q ∈ ([vm_m144, vm_m145, vm_m146, vm_m147, vm_m148, vm_m149, vm_m150, vm_m151, vm_m152, vm_m153, vm_m154, vm_m155, vm_m156, vm_m157, vm_m158, vm_m159] : List vm_M), vm_ok q := List.forall_mem_cons.mpr ⟨vm_o144, List.forall_mem_cons.mpr ⟨vm_o145, List.forall_mem_cons.mpr ⟨vm_o146, List.forall_mem_cons.mpr ⟨vm_o147, List.forall_mem_cons.mpr ⟨vm_o148, List.forall_mem_cons.mpr ⟨vm_o149, List.forall_mem_cons.mpr ⟨vm_o150, List.forall_mem_cons.mpr ⟨vm_o151, List.forall_mem_cons.mpr ⟨vm_o152, List.forall_mem_cons.mpr ⟨vm_o153, List.forall_mem_cons.mpr ⟨vm_o154, List.forall_mem_cons.mpr ⟨vm_o155, List.forall_mem_cons.mpr ⟨vm_o156, List.forall_mem_cons.mpr ⟨vm_o157, List.forall_mem_cons.mpr ⟨vm_o158, List.forall_mem_cons.mpr ⟨vm_o159, fun _ h => absurd h List.not_mem_nil⟩⟩⟩⟩⟩⟩⟩⟩⟩⟩⟩⟩⟩⟩⟩⟩
theorem vm_MTo_10 : ∀ q ∈ ([vm_m160, vm_m161, vm_m162, vm_m163, vm_m164, vm_m165, vm_m166, vm_m167, vm_m168, vm_m169, vm_m170, vm_m171, vm_m172, vm_m173, vm_m174, vm_m175] : List vm_M), vm_ok q := List.forall_mem_cons.mpr ⟨vm_o160, List.forall_mem_cons.mpr ⟨vm_o161, List.forall_mem_cons.mpr ⟨vm_o162, List.forall_mem_cons.mpr ⟨vm_o163, List.forall_mem_cons.mpr ⟨vm_o164, List.forall_mem_cons.mpr ⟨vm_o165, List.forall_mem_cons.mpr ⟨vm_o166, List.forall_mem_cons.mpr ⟨vm_o167, List.forall_mem_cons.mpr ⟨vm_o168, List.forall_mem_cons.mpr ⟨vm_o169, List.forall_mem_cons.mpr ⟨vm_o170, List.forall_mem_cons.mpr ⟨vm_o171, List.forall_mem_cons.mpr ⟨vm_o172, List.forall_mem_cons.mpr ⟨vm_o173, List.forall_mem_cons.mpr ⟨vm_o174, List.forall_mem_cons.mpr ⟨vm_o175, fun _ h => absurd h List.not_mem_nil⟩⟩⟩⟩⟩⟩⟩⟩⟩⟩⟩⟩⟩⟩⟩⟩
theorem vm_MTo_11 : ∀ q ∈ ([vm_m176, vm_m177, vm_m178, vm_m179, vm_m180, vm_m181, vm_m182, vm_m183, vm_m184, vm_m185, vm_m186, vm_m187, vm_m188, vm_m189, vm_m190, vm_m191] : List vm_M), vm_ok q := List.forall_mem_cons.mpr ⟨vm_o176, List.forall_mem_cons.mpr ⟨vm_o177, List.forall_mem_cons.mpr ⟨vm_o178, List.forall_mem_cons.mpr ⟨vm_o179, List.forall_mem_cons.mpr ⟨vm_o180, List.forall_mem_cons.mpr ⟨vm_o181, List.forall_mem_cons.mpr ⟨vm_o182, List.forall_mem_cons.mpr ⟨vm_o183, List.forall_mem_cons.mpr ⟨vm_o184, List.forall_mem_cons.mpr ⟨vm_o185, List.forall_mem_cons.mpr ⟨vm_o186, List.forall_mem_cons.mpr ⟨vm_o187, List.forall_mem_cons.mpr ⟨vm_o188, List.forall_mem_cons.mpr ⟨vm_o189, List.forall_mem_cons.mpr ⟨vm_o190, List.forall_mem_cons.mpr ⟨vm_o191, fun _ h => absurd h List.not_mem_nil⟩⟩⟩⟩⟩⟩⟩⟩⟩⟩⟩⟩⟩⟩⟩⟩
theorem vm_MTo_12 : ∀ q ∈ ([vm_m192, vm_m193, vm_m194, vm_m195, vm_m196, vm_m197, vm_m198, vm_m199, vm_m200, vm_m201, vm_m202, vm_m203, vm_m204, vm_m205] : List vm_M), vm_ok q := List.forall_mem_cons.mpr ⟨vm_o192, List.forall_mem_cons.mpr ⟨vm_o193, List.forall_mem_cons.mpr ⟨vm_o194, List.forall_mem_cons.mpr ⟨vm_o195, List.forall_mem_cons.mpr ⟨vm_o196, List.forall_mem_cons.mpr ⟨vm_o197, List.forall_mem_cons.mpr ⟨vm_o198, List.forall_mem_cons.mpr ⟨vm_o199, List.forall_mem_cons.mpr ⟨vm_o200, List.forall_mem_cons.mpr ⟨vm_o201, List.forall_mem_cons.mpr ⟨vm_o202, List.forall_mem_cons.mpr ⟨vm_o203, List.forall_mem_cons.mpr ⟨vm_o204, List.forall_mem_cons.mpr ⟨vm_o205, fun _ h => absurd h List.not_mem_nil⟩⟩⟩⟩⟩⟩⟩⟩⟩⟩⟩⟩⟩⟩
set_option maxRecDepth 100000 in
theorem vm_MT_eq : vm_MT = [vm_m0, vm_m1, vm_m2, vm_m3, vm_m4, vm_m5, vm_m6, vm_m7, vm_m8, vm_m9, vm_m10, vm_m11, vm_m12, vm_m13, vm_m14, vm_m15] ++ ([vm_m16, vm_m17, vm_m18, vm_m19, vm_m20, vm_m21, vm_m22, vm_m23, vm_m24, vm_m25, vm_m26, vm_m27, vm_m28, vm_m29, vm_m30, vm_m31] ++ ([vm_m32, vm_m33, vm_m34, vm_m35, vm_m36, vm_m37, vm_m38, vm_m39, vm_m40, vm_m41, vm_m42, vm_m43, vm_m44, vm_m45, vm_m46, vm_m47] ++ ([vm_m48, vm_m49, vm_m50, vm_m51, vm_m52, vm_m53, vm_m54, vm_m55, vm_m56, vm_m57, vm_m58, vm_m59, vm_m60, vm_m61, vm_m62, vm_m63] ++ ([vm_m64, vm_m65, vm_m66, vm_m67, vm_m68, vm_m69, vm_m70, vm_m71, vm_m72, vm_m73, vm_m74, vm_m75, vm_m76, vm_m77, vm_m78, vm_m79] ++ ([vm_m80, vm_m81, vm_m82, vm_m83, vm_m84, vm_m85, vm_m86, vm_m87, vm_m88, vm_m89, vm_m90, vm_m91, vm_m92, vm_m93, vm_m94, vm_m95] ++ ([vm_m96, vm_m97, vm_m98, vm_m99, vm_m100, vm_m101, vm_m102, vm_m103, vm_m104, vm_m105, vm_m106, vm_m107, vm_m108, vm_m109, vm_m110, vm_m111] ++ ([vm_m112, vm_m113, vm_m114, vm_m115, vm_m116, vm_m117, vm_m118, vm_m119, vm_m120, vm_m121, vm_m122, vm_m123, vm_m124, vm_m125, vm_m126, vm_m127] ++ ([vm_m128, vm_m129, vm_m130, vm_m131, vm_m132, vm_m133, vm_m134, vm_m135, vm_m136, vm_m137, vm_m138, vm_m139, vm_m140, vm_m141, vm_m142, vm_m143] ++ ([vm_m144, vm_m145, vm_m146, vm_m147, vm_m148, vm_m149, vm_m150, vm_m151, vm_m152, vm_m153, vm_m154, vm_m155, vm_m156, vm_m157, vm_m158, vm_m159] ++ ([vm_m160, vm_m161, vm_m162, vm_m163, vm_m164, vm_m165, vm_m166, vm_m167, vm_m168, vm_m169, vm_m170, vm_m171, vm_m172, vm_m173, vm_m174, vm_m175] ++ ([vm_m176, vm_m177, vm_m178, vm_m179, vm_m180, vm_m181, vm_m182, vm_m183, vm_m184, vm_m185, vm_m186, vm_m187, vm_m188, vm_m189, vm_m190, vm_m191] ++ ([vm_m192, vm_m193, vm_m194, vm_m195, vm_m196, vm_m197, vm_m198, vm_m199, vm_m200, vm_m201, vm_m202, vm_m203, vm_m204, vm_m205])))))))))))) := rfl
theorem vm_MT_ok : ∀ q ∈ vm_MT, vm_ok q := by
  rw [vm_MT_eq]
  exact List.forall_mem_append.mpr ⟨vm_MTo_0, List.forall_mem_append.mpr ⟨vm_MTo_1, List.forall_mem_append.mpr ⟨vm_MTo_2, List.forall_mem_append.mpr ⟨vm_MTo_3, List.forall_mem_append.mpr ⟨vm_MTo_4, List.forall_mem_append.mpr ⟨vm_MTo_5, List.forall_mem_append.mpr ⟨vm_MTo_6, List.forall_mem_append.mpr ⟨vm_MTo_7, List.forall_mem_append.mpr ⟨vm_MTo_8, List.forall_mem_append.mpr ⟨vm_MTo_9, List.forall_mem_append.mpr ⟨vm_MTo_10, List.forall_mem_append.mpr ⟨vm_MTo_11, vm_MTo_12⟩⟩⟩⟩⟩⟩⟩⟩⟩⟩⟩⟩
theorem vm_MTp_0 : ∀ q ∈ ([vm_m0, vm_m1, vm_m2, vm_m3, vm_m4, vm_m5, vm_m6, vm_m7, vm_m8, vm_m9, vm_m10, vm_m11, vm_m12, vm_m13, vm_m14, vm_m15] : List vm_M), vm_mf q := List.forall_mem_cons.mpr ⟨vm_p0, List.forall_mem_cons.mpr ⟨vm_p1, List.forall_mem_cons.mpr ⟨vm_p2, List.forall_mem_cons.mpr ⟨vm_p3, List.forall_mem_cons.mpr ⟨vm_p4, List.forall_mem_cons.mpr ⟨vm_p5, List.forall_mem_cons.mpr ⟨vm_p6, List.forall_mem_cons.mpr ⟨vm_p7, List.forall_mem_cons.mpr ⟨vm_p8, List.forall_mem_cons.mpr ⟨vm_p9, List.forall_mem_cons.mpr ⟨vm_p10, List.forall_mem_cons.mpr ⟨vm_p11, List.forall_mem_cons.mpr ⟨vm_p12, List.forall_mem_cons.mpr ⟨vm_p13, List.forall_mem_cons.mpr ⟨vm_p14, List.forall_mem_cons.mpr ⟨vm_p15, fun _ h => absurd h List.not_mem_nil⟩⟩⟩⟩⟩⟩⟩⟩⟩⟩⟩⟩⟩⟩⟩⟩
theorem vm_MTp_1 : ∀ q ∈ ([vm_m16, vm_m17, vm_m18, vm_m19, vm_m20, vm_m21, vm_m22, vm_m23, vm_m24, vm_m25, vm_m26, vm_m27, vm_m28, vm_m29, vm_m30, vm_m31] : List vm_M), vm_mf q := List.forall_mem_cons.mpr ⟨vm_p16, List.forall_mem_cons.mpr ⟨vm_p17, List.forall_mem_cons.mpr ⟨vm_p18, List.forall_mem_cons.mpr ⟨vm_p19, List.forall_mem_cons.mpr ⟨vm_p20, List.forall_mem_cons.mpr ⟨vm_p21, List.forall_mem_cons.mpr ⟨vm_p22, List.forall_mem_cons.mpr ⟨vm_p23, List.forall_mem_cons.mpr ⟨vm_p24, List.forall_mem_cons.mpr ⟨vm_p25, List.forall_mem_cons.mpr ⟨vm_p26, List.forall_mem_cons.mpr ⟨vm_p27, List.forall_mem_cons.mpr ⟨vm_p28, List.forall_mem_cons.mpr ⟨vm_p29, List.forall_mem_cons.mpr ⟨vm_p30, List.forall_mem_cons.mpr ⟨vm_p31, fun _ h => absurd h List.not_mem_nil⟩⟩⟩⟩⟩⟩⟩⟩⟩⟩⟩⟩⟩⟩⟩⟩
theorem vm_MTp_2 : ∀ q ∈ ([vm_m32, vm_m33, vm_m34, vm_m35, vm_m36, vm_m37, vm_m38, vm_m39, vm_m40, vm_m41, vm_m42, vm_m43, vm_m44, vm_m45, vm_m46, vm_m47] : List vm_M), vm_mf q := List.forall_mem_cons.mpr ⟨vm_p32, List.forall_mem_cons.mpr ⟨vm_p33, List.forall_mem_cons.mpr ⟨vm_p34, List.forall_mem_cons.mpr ⟨vm_p35, List.forall_mem_cons.mpr ⟨vm_p36, List.forall_mem_cons.mpr ⟨vm_p37, List.forall_mem_cons.mpr ⟨vm_p38, List.forall_mem_cons.mpr ⟨vm_p39, List.forall_mem_cons.mpr ⟨vm_p40, List.forall_mem_cons.mpr ⟨vm_p41, List.forall_mem_cons.mpr ⟨vm_p42, List.forall_mem_cons.mpr ⟨vm_p43, List.forall_mem_cons.mpr ⟨vm_p44, List.forall_mem_cons.mpr ⟨vm_p45, List.forall_mem_cons.mpr ⟨vm_p46, List.forall_mem_cons.mpr ⟨vm_p47, fun _ h => absurd h List.not_mem_nil⟩⟩⟩⟩⟩⟩⟩⟩⟩⟩⟩⟩⟩⟩⟩⟩
theorem vm_MTp_3 : ∀ q ∈ ([vm_m48, vm_m49, vm_m50, vm_m51, vm_m52, vm_m53, vm_m54, vm_m55, vm_m56, vm_m57, vm_m58, vm_m59, vm_m60, vm_m61, vm_m62, vm_m63] : List vm_M), vm_mf q := List.forall_mem_cons.mpr ⟨vm_p48, List.forall_mem_cons.mpr ⟨vm_p49, List.forall_mem_cons.mpr ⟨vm_p50, List.forall_mem_cons.mpr ⟨vm_p51, List.forall_mem_cons.mpr ⟨vm_p52, List.forall_mem_cons.mpr ⟨vm_p53, List.forall_mem_cons.mpr ⟨vm_p54, List.forall_mem_cons.mpr ⟨vm_p55, List.forall_mem_cons.mpr ⟨vm_p56, List.forall_mem_cons.mpr ⟨vm_p57, List.forall_mem_cons.mpr ⟨vm_p58, List.forall_mem_cons.mpr ⟨vm_p59, List.forall_mem_cons.mpr ⟨vm_p60, List.forall_mem_cons.mpr ⟨vm_p61, List.forall_mem_cons.mpr ⟨vm_p62, List.forall_mem_cons.mpr ⟨vm_p63, fun _ h => absurd h List.not_mem_nil⟩⟩⟩⟩⟩⟩⟩⟩⟩⟩⟩⟩⟩⟩⟩⟩
theorem vm_MTp_4 : ∀ q ∈ ([vm_m64, vm_m65, vm_m66, vm_m67, vm_m68, vm_m69, vm_m70, vm_m71, vm_m72, vm_m73, vm_m74, vm_m75, vm_m76, vm_m77, vm_m78, vm_m79] : List vm_M), vm_mf q := List.forall_mem_cons.mpr ⟨vm_p64, List.forall_mem_cons.mpr ⟨vm_p65, List.forall_mem_cons.mpr ⟨vm_p66, List.forall_mem_cons.mpr ⟨vm_p67, List.forall_mem_cons.mpr ⟨vm_p68, List.forall_mem_cons.mpr ⟨vm_p69, List.forall_mem_cons.mpr ⟨vm_p70, List.forall_mem_cons.mpr ⟨vm_p71, List.forall_mem_cons.mpr ⟨vm_p72, List.forall_mem_cons.mpr ⟨vm_p73, List.forall_mem_cons.mpr ⟨vm_p74, List.forall_mem_cons.mpr ⟨vm_p75, List.forall_mem_cons.mpr ⟨vm_p76, List.forall_mem_cons.mpr ⟨vm_p77, List.forall_mem_cons.mpr ⟨vm_p78, List.forall_mem_cons.mpr ⟨vm_p79, fun _ h => absurd h List.not_mem_nil⟩⟩⟩⟩⟩⟩⟩⟩⟩⟩⟩⟩⟩⟩⟩⟩
theorem vm_MTp_5 : ∀ q ∈ ([vm_m80, vm_m81, vm_m82, vm_m83, vm_m84, vm_m85, vm_m86, vm_m87, vm_m88, vm_m89, vm_m90, vm_m91, vm_m92, vm_m93, vm_m94, vm_m95] : List vm_M), vm_mf q := List.forall_mem_cons.mpr ⟨vm_p80, List.forall_mem_cons.mpr ⟨vm_p81, List.forall_mem_cons.mpr ⟨vm_p82, List.forall_mem_cons.mpr ⟨vm_p83, List.forall_mem_cons.mpr ⟨vm_p84, List.forall_mem_cons.mpr ⟨vm_p85, List.forall_mem_cons.mpr ⟨vm_p86, List.forall_mem_cons.mpr ⟨vm_p87, List.forall_mem_cons.mpr ⟨vm_p88, List.forall_mem_cons.mpr ⟨vm_p89, List.forall_mem_cons.mpr ⟨vm_p90, List.forall_mem_cons.mpr ⟨vm_p91, List.forall_mem_cons.mpr ⟨vm_p92, List.forall_mem_cons.mpr ⟨vm_p93, List.forall_mem_cons.mpr ⟨vm_p94, List.forall_mem_cons.mpr ⟨vm_p95, fun _ h => absurd h List.not_mem_nil⟩⟩⟩⟩⟩⟩⟩⟩⟩⟩⟩⟩⟩⟩⟩⟩
theorem vm_MTp_6 : ∀ q ∈ ([vm_m96, vm_m97, vm_m98, vm_m99, vm_m100, vm_m101, vm_m102, vm_m103, vm_m104, vm_m105, vm_m106, vm_m107, vm_m108, vm_m109, vm_m110, vm_m111] : List vm_M), vm_mf q := List.forall_mem_cons.mpr ⟨vm_p96, List.forall_mem_cons.mpr ⟨vm_p97, List.forall_mem_cons.mpr ⟨vm_p98, List.forall_mem_cons.mpr ⟨vm_p99, List.forall_mem_cons.mpr ⟨vm_p100, List.forall_mem_cons.mpr ⟨vm_p101, List.forall_mem_cons.mpr ⟨vm_p102, List.forall_mem_cons.mpr ⟨vm_p103, List.forall_mem_cons.mpr ⟨vm_p104, List.forall_mem_cons.mpr ⟨vm_p105, List.forall_mem_cons.mpr ⟨vm_p106, List.forall_mem_cons.mpr ⟨vm_p107, List.forall_mem_cons.mpr ⟨vm_p108, List.forall_mem_cons.mpr ⟨vm_p109, List.forall_mem_cons.mpr ⟨vm_p110, List.forall_mem_cons.mpr ⟨vm_p111, fun _ h => absurd h List.not_mem_nil⟩⟩⟩⟩⟩⟩⟩⟩⟩⟩⟩⟩⟩⟩⟩⟩
theorem vm_MTp_7 : ∀ q ∈ ([vm_m112, vm_m113, vm_m114, vm_m115, vm_m116, vm_m117, vm_m118, vm_m119, vm_m120, vm_m121, vm_m122, vm_m123, vm_m124, vm_m125, vm_m126, vm_m127] : List vm_M), vm_mf q := List.forall_mem_cons.mpr ⟨vm_p112, List.forall_mem_cons.mpr ⟨vm_p113, List.forall_mem_cons.mpr ⟨vm_p114, List.forall_mem_cons.mpr ⟨vm_p115, List.forall_mem_cons.mpr ⟨vm_p116, List.forall_mem_cons.mpr ⟨vm_p117, List.forall_mem_cons.mpr ⟨vm_p118, List.forall_mem_cons.mpr ⟨vm_p119, List.forall_mem_cons.mpr ⟨vm_p120, List.forall_mem_cons.mpr ⟨vm_p121, List.forall_mem_cons.mpr ⟨vm_p122, List.forall_mem_cons.mpr ⟨vm_p123, List.forall_mem_cons.mpr ⟨vm_p124, List.forall_mem_cons.mpr ⟨vm_p125, List.forall_mem_cons.mpr ⟨vm_p126, List.forall_mem_cons.mpr ⟨vm_p127, fun _ h => absurd h List.not_mem_nil⟩⟩⟩⟩⟩⟩⟩⟩⟩⟩⟩⟩⟩⟩⟩⟩
theorem vm_MTp_8 : ∀ q ∈ ([vm_m128, vm_m129, vm_m130, vm_m131, vm_m132, vm_m133, vm_m134, vm_m135, vm_m136, vm_m137, vm_m138, vm_m139, vm_m140, vm_m141, vm_m142, vm_m143] : List vm_M), vm_mf q := List.forall_mem_cons.mpr ⟨vm_p128, List.forall_mem_cons.mpr ⟨vm_p129, List.forall_mem_cons.mpr ⟨vm_p130, List.forall_mem_cons.mpr ⟨vm_p131, List.forall_mem_cons.mpr ⟨vm_p132, List.forall_mem_cons.mpr ⟨vm_p133, List.forall_mem_cons.mpr ⟨vm_p134, List.forall_mem_cons.mpr ⟨vm_p135, List.forall_mem_cons.mpr ⟨vm_p136, List.forall_mem_cons.mpr ⟨vm_p137, List.forall_mem_cons.mpr ⟨vm_p138, List.forall_mem_cons.mpr ⟨vm_p139, List.forall_mem_cons.mpr ⟨vm_p140, List.forall_mem_cons.mpr ⟨vm_p141, List.forall_mem_cons.mpr ⟨vm_p142, List.forall_mem_cons.mpr ⟨vm_p143, fun _ h => absurd h List.not_mem_nil⟩⟩⟩⟩⟩⟩⟩⟩⟩⟩⟩⟩⟩⟩⟩⟩
theorem vm_MTp_9 : ∀ q ∈ ([vm_m144, vm_m145, vm_m146, vm_m147, vm_m148, vm_m149, vm_m150, vm_m151, vm_m152, vm_m153, vm_m154, vm_m155, vm_m156, vm_m157, vm_m158, vm_m159] : List vm_M), vm_mf q := List.forall_mem_cons.mpr ⟨vm_p144, List.forall_mem_cons.mpr ⟨vm_p145, List.forall_mem_cons.mpr ⟨vm_p146, List.forall_mem_cons.mpr ⟨vm_p147, List.forall_mem_cons.mpr ⟨vm_p148, List.forall_mem_cons.mpr ⟨vm_p149, List.forall_mem_cons.mpr ⟨vm_p150, List.forall_mem_cons.mpr ⟨vm_p151, List.forall_mem_cons.mpr ⟨vm_p152, List.forall_mem_cons.mpr ⟨vm_p153, List.forall_mem_cons.mpr ⟨vm_p154, List.forall_mem_cons.mpr ⟨vm_p155, List.forall_mem_cons.mpr ⟨vm_p156, List.forall_mem_cons.mpr ⟨vm_p157, List.forall_mem_cons.mpr ⟨vm_p158, List.forall_mem_cons.mpr ⟨vm_p159, fun _ h => absurd h List.not_mem_nil⟩⟩⟩⟩⟩⟩⟩⟩⟩⟩⟩⟩⟩⟩⟩⟩
theorem vm_MTp_10 : ∀ q ∈ ([vm_m160, vm_m161, vm_m162, vm_m163, vm_m164, vm_m165, vm_m166, vm_m167, vm_m168, vm_m169, vm_m170, vm_m171, vm_m172, vm_m173, vm_m174, vm_m175] : List vm_M), vm_mf q := List.forall_mem_cons.mpr ⟨vm_p160, List.forall_mem_cons.mpr ⟨vm_p161, List.forall_mem_cons.mpr ⟨vm_p162, List.forall_mem_cons.mpr ⟨vm_p163, List.forall_mem_cons.mpr ⟨vm_p164, List.forall_mem_cons.mpr ⟨vm_p165, List.forall_mem_cons.mpr ⟨vm_p166, List.forall_mem_cons.mpr ⟨vm_p167, List.forall_mem_cons.mpr ⟨vm_p168, List.forall_mem_cons.mpr ⟨vm_p169, List.forall_mem_cons.mpr ⟨vm_p170, List.forall_mem_cons.mpr ⟨vm_p171, List.forall_mem_cons.mpr ⟨vm_p172, List.forall_mem_cons.mpr ⟨vm_p173, List.forall_mem_cons.mpr ⟨vm_p174, List.forall_mem_cons.mpr ⟨vm_p175, fun _ h => absurd h List.not_mem_nil⟩⟩⟩⟩⟩⟩⟩⟩⟩⟩⟩⟩⟩⟩⟩⟩
theorem vm_MTp_11 : ∀ q ∈ ([vm_m176, vm_m177, vm_m178, vm_m179, vm_m180, vm_m181, vm_m182, vm_m183, vm_m184, vm_m185, vm_m186, vm_m187, vm_m188, vm_m189, vm_m190, vm_m191] : List vm_M), vm_mf q := List.forall_mem_cons.mpr ⟨vm_p176, List.forall_mem_cons.mpr ⟨vm_p177, List.forall_mem_cons.mpr ⟨vm_p178, List.forall_mem_cons.mpr ⟨vm_p179, List.forall_mem_cons.mpr ⟨vm_p180, List.forall_mem_cons.mpr ⟨vm_p181, List.forall_mem_cons.mpr ⟨vm_p182, List.forall_mem_cons.mpr ⟨vm_p183, List.forall_mem_cons.mpr ⟨vm_p184, List.forall_mem_cons.mpr ⟨vm_p185, List.forall_mem_cons.mpr ⟨vm_p186, List.forall_mem_cons.mpr ⟨vm_p187, List.forall_mem_cons.mpr ⟨vm_p188, List.forall_mem_cons.mpr ⟨vm_p189, List.forall_mem_cons.mpr ⟨vm_p190, List.forall_mem_cons.mpr ⟨vm_p191, fun _ h => absurd h List.not_mem_nil⟩⟩⟩⟩⟩⟩⟩⟩⟩⟩⟩⟩⟩⟩⟩⟩
theorem vm_MTp_12 : ∀ q ∈ ([vm_m192, vm_m193, vm_m194, vm_m195, vm_m196, vm_m197, vm_m198, vm_m199, vm_m200, vm_m201, vm_m202, vm_m203, vm_m204] : List vm_M), vm_mf q := List.forall_mem_cons.mpr ⟨vm_p192, List.forall_mem_cons.mpr ⟨vm_p193, List.forall_mem_cons.mpr ⟨vm_p194, List.forall_mem_cons.mpr ⟨vm_p195, List.forall_mem_cons.mpr ⟨vm_p196, List.forall_mem_cons.mpr ⟨vm_p197, List.forall_mem_cons.mpr ⟨vm_p198, List.forall_mem_cons.mpr ⟨vm_p199, List.forall_mem_cons.mpr ⟨vm_p200, List.forall_mem_cons.mpr ⟨vm_p201, List.forall_mem_cons.mpr ⟨vm_p202, List.forall_mem_cons.mpr ⟨vm_p203, List.forall_mem_cons.mpr ⟨vm_p204, fun _ h => absurd h List.not_mem_nil⟩⟩⟩⟩⟩⟩⟩⟩⟩⟩⟩⟩⟩
def vm_MC : List vm_M := [vm_m0, vm_m1, vm_m2, vm_m3, vm_m4, vm_m5, vm_m6, vm_m7, vm_m8, vm_m9, vm_m10, vm_m11, vm_m12, vm_m13, vm_m14, vm_m15] ++ ([vm_m16, vm_m17, vm_m18, vm_m19, vm_m20, vm_m21, vm_m22, vm_m23, vm_m24, vm_m25, vm_m26, vm_m27, vm_m28, vm_m29, vm_m30, vm_m31] ++ ([vm_m32, vm_m33, vm_m34, vm_m35, vm_m36, vm_m37, vm_m38, vm_m39, vm_m40, vm_m41, vm_m42, vm_m43, vm_m44, vm_m45, vm_m46, vm_m47] ++ ([vm_m48, vm_m49, vm_m50, vm_m51, vm_m52, vm_m53, vm_m54, vm_m55, vm_m56, vm_m57, vm_m58, vm_m59, vm_m60, vm_m61, vm_m62, vm_m63] ++ ([vm_m64, vm_m65, vm_m66, vm_m67, vm_m68, vm_m69, vm_m70, vm_m71, vm_m72, vm_m73, vm_m74, vm_m75, vm_m76, vm_m77, vm_m78, vm_m79] ++ ([vm_m80, vm_m81, vm_m82, vm_m83, vm_m84, vm_m85, vm_m86, vm_m87, vm_m88, vm_m89, vm_m90, vm_m91, vm_m92, vm_m93, vm_m94, vm_m95] ++ ([vm_m96, vm_m97, vm_m98, vm_m99, vm_m100, vm_m101, vm_m102, vm_m103, vm_m104, vm_m105, vm_m106, vm_m107, vm_m108, vm_m109, vm_m110, vm_m111] ++ ([vm_m112, vm_m113, vm_m114, vm_m115, vm_m116, vm_m117, vm_m118, vm_m119, vm_m120, vm_m121, vm_m122, vm_m123, vm_m124, vm_m125, vm_m126, vm_m127] ++ ([vm_m128, vm_m129, vm_m130, vm_m131, vm_m132, vm_m133, vm_m134, vm_m135, vm_m136, vm_m137, vm_m138, vm_m139, vm_m140, vm_m141, vm_m142, vm_m143] ++ ([vm_m144, vm_m145, vm_m146, vm_m147, vm_m148, vm_m149, vm_m150, vm_m151, vm_m152, vm_m153, vm_m154, vm_m155, vm_m156, vm_m157, vm_m158, vm_m159] ++ ([vm_m160, vm_m161, vm_m162, vm_m163, vm_m164, vm_m165, vm_m166, vm_m167, vm_m168, vm_m169, vm_m170, vm_m171, vm_m172, vm_m173, vm_m174, vm_m175] ++ ([vm_m176, vm_m177, vm_m178, vm_m179, vm_m180, vm_m181, vm_m182, vm_m183, vm_m184, vm_m185, vm_m186, vm_m187, vm_m188, vm_m189, vm_m190, vm_m191] ++ ([vm_m192, vm_m193, vm_m194, vm_m195, vm_m196, vm_m197, vm_m198, vm_m199, vm_m200, vm_m201, vm_m202, vm_m203, vm_m204]))))))))))))
set_option maxRecDepth 100000 in
theorem vm_MC_eq : vm_MT.take 205 = vm_MC := rfl
theorem vm_MC_ok : ∀ q ∈ vm_MC, vm_mf q := List.forall_mem_append.mpr ⟨vm_MTp_0, List.forall_mem_append.mpr ⟨vm_MTp_1, List.forall_mem_append.mpr ⟨vm_MTp_2, List.forall_mem_append.mpr ⟨vm_MTp_3, List.forall_mem_append.mpr ⟨vm_MTp_4, List.forall_mem_append.mpr ⟨vm_MTp_5, List.forall_mem_append.mpr ⟨vm_MTp_6, List.forall_mem_append.mpr ⟨vm_MTp_7, List.forall_mem_append.mpr ⟨vm_MTp_8, List.forall_mem_append.mpr ⟨vm_MTp_9, List.forall_mem_append.mpr ⟨vm_MTp_10, List.forall_mem_append.mpr ⟨vm_MTp_11, vm_MTp_12⟩⟩⟩⟩⟩⟩⟩⟩⟩⟩⟩⟩
theorem vm_callee {b : Nat} {r : vm_M} (hb : b < 205) (h : vm_MT[b]? = some r) : vm_mf r := by
  refine vm_MC_ok r ?_
  rw [← vm_MC_eq]
  refine List.mem_of_getElem? (i := b) ?_
  rw [List.getElem?_take, if_pos hb]
  exact h
end
section
/-! A PURE MACHINE: the instructions of the program over a world of numbered cells. Its runs are tied to the real machine once, in part 07. -/
abbrev vm_E : Type := (Nat × (Nat → Int32)) ⊕ ((Nat × (Nat → Option Nat)) ⊕ (Nat × List Value))
/-- how many cells, how many slots, the cells -/
abbrev vm_W : Type := Nat × Nat × (Nat → vm_E)
abbrev vm_L : Type := List (Option Value)
/-- the script's cell, the literal's cell -/
abbrev vm_scr : Nat := 1000000
abbrev vm_str : Nat := 1000001
def vm_up (w : Nat → vm_E) (i : Nat) (e : vm_E) : Nat → vm_E := fun j => if j = i then e else w j
def vm_ld (ls : vm_L) (i : Nat) : Option Value := match ls, i with
  | [], _ => none
  | a :: _, 0 => a
  | _ :: t, i + 1 => vm_ld t i
/-- a long loses its place when its second half is written over -/
def vm_nl (x : Option Value) : Option Value := match x with
  | some (.long _) => none
  | some (.double _) => none
  | x => x
def vm_st1 (ls : vm_L) (i : Nat) (v : Value) : vm_L := match ls, i with
  | [], _ => []
  | _ :: t, 0 => some v :: t
  | a :: t, 1 => match t with
    | [] => [a]
    | _ :: t2 => vm_nl a :: some v :: t2
  | a :: t, i + 2 => a :: vm_st1 t (i + 1) v
def vm_st2 (ls : vm_L) (i : Nat) (v : Value) : vm_L := match ls, i with
  | [], _ => []
  | _ :: t, 0 => some v :: none :: t.drop 1
  | a :: t, 1 => match t with
    | [] => [a]
    | _ :: t2 => vm_nl a :: some v :: none :: t2.drop 1
  | a :: t, i + 2 => a :: vm_st2 t (i + 1) v
def vm_cmp (c : Jvm.ClassFile.Cond) (x y : Int32) : Bool := match c with
  | .eq => decide (x = y)
  | .ne => decide (¬ x = y)
  | .lt => decide (x < y)
  | .ge => decide (y ≤ x)
  | .gt => decide (y < x)
  | .le => decide (x ≤ y)
def vm_tg (pc : Nat) (off : Int) : Nat := ((pc : Int) + off).toNat
def vm_fit (ty : FieldType) (v : Value) : Bool := match ty, v with
  | .int, .int _ => true
  | .object _, .ref _ => true
  | .array _, .ref _ => true
  | _, _ => false
/-- the field b of class a, written to by a method of record r -/
def vm_fin (r : vm_M) (a b : Nat) : Bool := match vwCl[a]? with
  | some (_, T, _) => (T b).2.2.2 == false || ((r.2.1.name == "<init>") && ((T b).1 == r.1))
  | none => false
def vm_txt : List Int32 := ("t1203;t2194;t4330;t0952;t5149;t9995;r0;r1;r0;r2;c0,9,3,2,1,2;c2,5,1,4,2,0;c0,12,0,0,3,3;".toList).map (fun c => Int32.ofNat c.toNat)
def vm_push (x : Option Value) (p : Value → Bool) (pc : Nat) (ls : vm_L) (st : List Value) (w : vm_W) : Option (Nat × vm_L × List Value × vm_W) := match x with
  | some v => if p v = true then some (pc, ls, v :: st, w) else none
  | none => none
def vm_isI (v : Value) : Bool := match v with
  | .int _ => true
  | _ => false
def vm_isJ (v : Value) : Bool := match v with
  | .long _ => true
  | _ => false
def vm_isA (v : Value) : Bool := match v with
  | .ref _ => true
  | _ => false
def vm_bin (pc : Nat) (ls : vm_L) (st : List Value) (w : vm_W) (f : Int32 → Int32 → Option Int32) : Option (Nat × vm_L × List Value × vm_W) := match st with
  | .int y :: .int x :: st => match f x y with
    | some z => some (pc + 1, ls, .int z :: st, w)
    | none => none
  | _ => none
def vm_lbin (pc : Nat) (ls : vm_L) (st : List Value) (w : vm_W) (f : Int64 → Int64 → Option Value) : Option (Nat × vm_L × List Value × vm_W) := match st with
  | .long y :: .long x :: st => match f x y with
    | some z => some (pc + 1, ls, z :: st, w)
    | none => none
  | _ => none
def vm_sti (pc : Nat) (k : Nat) (ls : vm_L) (st : List Value) (w : vm_W) : Option (Nat × vm_L × List Value × vm_W) := match st with
  | .int x :: st => if k < ls.length then some (pc, vm_st1 ls k (.int x), st, w) else none
  | _ => none
def vm_sta (pc : Nat) (k : Nat) (ls : vm_L) (st : List Value) (w : vm_W) : Option (Nat × vm_L × List Value × vm_W) := match st with
  | .ref x :: st => if k < ls.length then some (pc, vm_st1 ls k (.ref x), st, w) else none
  | _ => none
def vm_stl (pc : Nat) (k : Nat) (ls : vm_L) (st : List Value) (w : vm_W) : Option (Nat × vm_L × List Value × vm_W) := match st with
  | .long x :: st => if k + 1 < ls.length then some (pc, vm_st2 ls k (.long x), st, w) else none
  | _ => none
def vm_iinc (pc : Nat) (k : Nat) (n : Int) (ls : vm_L) (st : List Value) (w : vm_W) : Option (Nat × vm_L × List Value × vm_W) := match vm_ld ls k with
  | some (.int x) => if k < ls.length then some (pc + 3, vm_st1 ls k (.int (x + Int32.ofInt n)), st, w) else none
  | _ => none
def vm_jmp (pc : Nat) (off : Int) (ls : vm_L) (st : List Value) (w : vm_W) : Option (Nat × vm_L × List Value × vm_W) :=
  if 0 ≤ (pc : Int) + off then some (vm_tg pc off, ls, st, w) else none
def vm_if0 (c : Jvm.ClassFile.Cond) (pc : Nat) (off : Int) (ls : vm_L) (st : List Value) (w : vm_W) : Option (Nat × vm_L × List Value × vm_W) := match st with
  | .int x :: st => if 0 ≤ (pc : Int) + off then (if vm_cmp c x 0 = true then some (vm_tg pc off, ls, st, w) else some (pc + 3, ls, st, w)) else none
  | _ => none
def vm_if2 (c : Jvm.ClassFile.Cond) (pc : Nat) (off : Int) (ls : vm_L) (st : List Value) (w : vm_W) : Option (Nat × vm_L × List Value × vm_W) := match st with
  | .int y :: .int x :: st => if 0 ≤ (pc : Int) + off then (if vm_cmp c x y = true then some (vm_tg pc off, ls, st, w) else some (pc + 3, ls, st, w)) else none
  | _ => none
def vm_ifn (nn : Bool) (pc : Nat) (off : Int) (ls : vm_L) (st : List Value) (w : vm_W) : Option (Nat × vm_L × List Value × vm_W) := match st with
  | .ref _ :: st => if 0 ≤ (pc : Int) + off then some (if nn = true then vm_tg pc off else pc + 3, ls, st, w) else none
  | _ => none
def vm_tab (pc : Nat) (d lo hi : Int) (os : Array Int) (ls : vm_L) (st : List Value) (w : vm_W) : Option (Nat × vm_L × List Value × vm_W) := match st with
  | .int x :: st => if x.toInt < lo ∨ hi < x.toInt then vm_jmp pc d ls st w else match os[(x.toInt - lo).toNat]? with
    | some off => vm_jmp pc off ls st w
    | none => none
  | _ => none
def vm_lku (pc : Nat) (d : Int) (ps : Array (Int × Int)) (ls : vm_L) (st : List Value) (w : vm_W) : Option (Nat × vm_L × List Value × vm_W) := match st with
  | .int x :: st => if (ps.toList.zip (ps.toList.drop 1)).all (fun (a, next) => a.1 < next.1) = true then vm_jmp pc (Op.lookupswitch.offset ps.toList d x.toInt) ls st w else none
  | _ => none
def vm_get (a b pc : Nat) (ls : vm_L) (st : List Value) (w : vm_W) : Option (Nat × vm_L × List Value × vm_W) := match st with
  | .ref i :: st => if i < w.1 then match w.2.2 i with
    | .inr (.inr (ci, fs)) => if ci = a then match fs[b]? with
      | some v => some (pc + 3, ls, v :: st, w)
      | none => none
      else none
    | _ => none
    else none
  | _ => none
def vm_put (r : vm_M) (a b pc : Nat) (ls : vm_L) (st : List Value) (w : vm_W) : Option (Nat × vm_L × List Value × vm_W) := match st with
  | v :: .ref i :: st => if i < w.1 then match w.2.2 i with
    | .inr (.inr (ci, fs)) => if ci = a ∧ b < fs.length ∧ vm_fit (vm_ty a b) v = true ∧ vm_fin r a b = true then some (pc + 3, ls, st, (w.1, w.2.1, vm_up w.2.2 i (.inr (.inr (ci, fs.set b v))))) else none
    | _ => none
    else none
  | _ => none
def vm_ald (pc : Nat) (ls : vm_L) (st : List Value) (w : vm_W) : Option (Nat × vm_L × List Value × vm_W) := match st with
  | .int j :: .ref i :: st => if i < w.1 ∨ i = vm_scr then match w.2.2 i with
    | .inl (n, f) => if j < 0 ∨ n ≤ j.toNatClampNeg then none else some (pc + 1, ls, .int (f j.toNatClampNeg) :: st, w)
    | _ => none
    else none
  | _ => none
def vm_ast (pc : Nat) (ls : vm_L) (st : List Value) (w : vm_W) : Option (Nat × vm_L × List Value × vm_W) := match st with
  | .int x :: .int j :: .ref i :: st => if i < w.1 then match w.2.2 i with
    | .inl (n, f) => if j < 0 ∨ n ≤ j.toNatClampNeg then none else some (pc + 1, ls, st, (w.1, w.2.1, vm_up w.2.2 i (.inl (n, upd f j.toNatClampNeg x))))
    | _ => none
    else none
  | _ => none
def vm_qld (pc : Nat) (ls : vm_L) (st : List Value) (w : vm_W) : Option (Nat × vm_L × List Value × vm_W) := match st with
  | .int j :: .ref i :: st => if i < w.1 then match w.2.2 i with
    | .inr (.inl (n, g)) => if j < 0 ∨ n ≤ j.toNatClampNeg then none else match g j.toNatClampNeg with
      | some k => some (pc + 1, ls, .ref k :: st, w)
      | none => none
    | _ => none
    else none
  | _ => none
def vm_isC (e : vm_E) : Bool := match e with
  | .inr (.inr (0, _)) => true
  | _ => false
def vm_qst (pc : Nat) (ls : vm_L) (st : List Value) (w : vm_W) : Option (Nat × vm_L × List Value × vm_W) := match st with
  | .ref v :: .int j :: .ref i :: st => if i < w.1 ∧ v < w.1 ∧ vm_isC (w.2.2 v) = true then match w.2.2 i with
    | .inr (.inl (n, g)) => if j < 0 ∨ n ≤ j.toNatClampNeg then none else some (pc + 1, ls, st, (w.1, w.2.1, vm_up w.2.2 i (.inr (.inl (n, va_up g j.toNatClampNeg (some v))))))
    | _ => none
    else none
  | _ => none
def vm_alen (pc : Nat) (ls : vm_L) (st : List Value) (w : vm_W) : Option (Nat × vm_L × List Value × vm_W) := match st with
  | .ref i :: st => if i < w.1 ∨ i = vm_scr then match w.2.2 i with
    | .inl (n, _) => some (pc + 1, ls, .int (Int32.ofNat n) :: st, w)
    | .inr (.inl (n, _)) => if i < w.1 then some (pc + 1, ls, .int (Int32.ofNat n) :: st, w) else none
    | _ => none
    else none
  | _ => none
def vm_newi (pc : Nat) (ls : vm_L) (st : List Value) (w : vm_W) : Option (Nat × vm_L × List Value × vm_W) := match st with
  | .int n :: st => if ¬ n < 0 ∧ n.toNatClampNeg ≤ 1000 ∧ w.1 < 1000 then some (pc + 2, ls, .ref w.1 :: st, (w.1 + 1, w.2.1 + n.toNatClampNeg, vm_up w.2.2 w.1 (.inl (n.toNatClampNeg, fun _ => 0)))) else none
  | _ => none
def vm_newq (pc : Nat) (ls : vm_L) (st : List Value) (w : vm_W) : Option (Nat × vm_L × List Value × vm_W) := match st with
  | .int n :: st => if ¬ n < 0 ∧ n.toNatClampNeg ≤ 1000 ∧ w.1 < 1000 then some (pc + 3, ls, .ref w.1 :: st, (w.1 + 1, w.2.1 + n.toNatClampNeg, vm_up w.2.2 w.1 (.inr (.inl (n.toNatClampNeg, fun _ => none))))) else none
  | _ => none
def vm_new (a pc : Nat) (ls : vm_L) (st : List Value) (w : vm_W) : Option (Nat × vm_L × List Value × vm_W) := match vwCl[a]? with
  | some (_, _, N) => if w.1 < 1000 then some (pc + 3, ls, .ref w.1 :: st, (w.1 + 1, w.2.1 + N, vm_up w.2.2 w.1 (.inr (.inr (a, (List.range N).map (fun j => defaultValue (vm_ty a j))))))) else none
  | none => none
def vm_dup2 (pc : Nat) (ls : vm_L) (st : List Value) (w : vm_W) : Option (Nat × vm_L × List Value × vm_W) := match st with
  | va :: vb :: st => if va.category = 1 ∧ vb.category = 1 then some (pc + 1, ls, va :: vb :: va :: vb :: st, w) else none
  | _ => none
def vm_dup (pc : Nat) (ls : vm_L) (st : List Value) (w : vm_W) : Option (Nat × vm_L × List Value × vm_W) := match st with
  | va :: st => if va.category = 1 then some (pc + 1, ls, va :: va :: st, w) else none
  | _ => none
def vm_pop (pc : Nat) (ls : vm_L) (st : List Value) (w : vm_W) : Option (Nat × vm_L × List Value × vm_W) := match st with
  | va :: st => if va.category = 1 then some (pc + 1, ls, st, w) else none
  | _ => none
def vm_i2l (pc : Nat) (ls : vm_L) (st : List Value) (w : vm_W) : Option (Nat × vm_L × List Value × vm_W) := match st with
  | .int x :: st => some (pc + 1, ls, .long x.toInt64 :: st, w)
  | _ => none
def vm_l2i (pc : Nat) (ls : vm_L) (st : List Value) (w : vm_W) : Option (Nat × vm_L × List Value × vm_W) := match st with
  | .long x :: st => some (pc + 1, ls, .int x.toInt32 :: st, w)
  | _ => none
/-- Object.<init> -/
def vm_oin (d pc : Nat) (ls : vm_L) (st : List Value) (w : vm_W) : Option (Nat × vm_L × List Value × vm_W) := match st with
  | .ref _ :: st => if 1 ≤ d ∧ (st.map fun v => v.category).sum ≤ 8 then some (pc + 3, ls, st, w) else none
  | _ => none
/-- length() of the literal -/
def vm_sln (d pc : Nat) (ls : vm_L) (st : List Value) (w : vm_W) : Option (Nat × vm_L × List Value × vm_W) := match st with
  | .ref i :: st => if i = vm_str ∧ 10 ≤ d ∧ (st.map fun v => v.category).sum ≤ 8 then some (pc + 3, ls, .int (Int32.ofNat vm_txt.length) :: st, w) else none
  | _ => none
/-- charAt(j) of the literal -/
def vm_sch (d pc : Nat) (ls : vm_L) (st : List Value) (w : vm_W) : Option (Nat × vm_L × List Value × vm_W) := match st with
  | .int j :: .ref i :: st => if i = vm_str ∧ 10 ≤ d ∧ (st.map fun v => v.category).sum ≤ 8 ∧ ¬ j < 0 then match vm_txt[j.toNatClampNeg]? with
    | some z => some (pc + 3, ls, .int z :: st, w)
    | none => none
    else none
  | _ => none
def vm_lc (v : Option Value) (pc : Nat) (ls : vm_L) (st : List Value) (w : vm_W) : Option (Nat × vm_L × List Value × vm_W) := match v with
  | some v => some (pc, ls, v :: st, w)
  | none => none
/-- one instruction that neither calls nor returns -/
def vm_step (d : Nat) (r : vm_M) (q : vm_I) (ls : vm_L) (st : List Value) (w : vm_W) : Option (Nat × vm_L × List Value × vm_W) :=
  let pc := q.1
  let a := q.2.2.2.1
  let b := q.2.2.2.2.1
  match q.2.1 with
  | .iconst n => some (pc + 1, ls, .int (Int32.ofInt n) :: st, w)
  | .bipush n => some (pc + 2, ls, .int (Int8.ofInt n).toInt32 :: st, w)
  | .sipush n => some (pc + 3, ls, .int (Int16.ofInt n).toInt32 :: st, w)
  | .lconst n => some (pc + 1, ls, .long (Int64.ofNat (n : Nat)) :: st, w)
  | .ldc _ => if a = 99 then some (pc + 2, ls, .ref vm_str :: st, w) else vm_lc (vm_KI[a]?.map Value.int) (pc + 2) ls st w
  | .ldc2_w _ => vm_lc (vm_KL[a]?.map Value.long) (pc + 3) ls st w
  | .aconst_null => some (pc + 1, ls, .null :: st, w)
  | .iload_n k => vm_push (vm_ld ls k) vm_isI (pc + 1) ls st w
  | .iload k => vm_push (vm_ld ls k) vm_isI (pc + 2) ls st w
  | .lload_n k => vm_push (vm_ld ls k) vm_isJ (pc + 1) ls st w
  | .lload k => vm_push (vm_ld ls k) vm_isJ (pc + 2) ls st w
  | .aload_n k => vm_push (vm_ld ls k) vm_isA (pc + 1) ls st w
  | .istore_n k => vm_sti (pc + 1) k ls st w
  | .istore k => vm_sti (pc + 2) k ls st w
  | .astore_n k => vm_sta (pc + 1) k ls st w
  | .lstore_n k => vm_stl (pc + 1) k ls st w
  | .lstore k => vm_stl (pc + 2) k ls st w
  | .iinc k n => vm_iinc pc k n ls st w
  | .iadd => vm_bin pc ls st w fun x y => some (x + y)
  | .isub => vm_bin pc ls st w fun x y => some (x - y)
  | .imul => vm_bin pc ls st w fun x y => some (x * y)
  | .idiv => vm_bin pc ls st w fun x y => if y = 0 then none else some (x / y)
  | .irem => vm_bin pc ls st w fun x y => if y = 0 then none else some (x - x / y * y)
  | .iand => vm_bin pc ls st w fun x y => some (x &&& y)
  | .ior => vm_bin pc ls st w fun x y => some (x ||| y)
  | .ixor => vm_bin pc ls st w fun x y => some (x ^^^ y)
  | .ishl => vm_bin pc ls st w fun x y => some (x <<< (y &&& 31))
  | .ishr => vm_bin pc ls st w fun x y => some (x >>> (y &&& 31))
  | .ladd => vm_lbin pc ls st w fun x y => some (.long (x + y))
  | .lmul => vm_lbin pc ls st w fun x y => some (.long (x * y))
  | .ldiv => vm_lbin pc ls st w fun x y => if y = 0 then none else some (.long (x / y))
  | .lrem => vm_lbin pc ls st w fun x y => if y = 0 then none else some (.long (x - x / y * y))
  | .lcmp => vm_lbin pc ls st w fun x y => some (.int (lg_cmp x y))
  | .i2l => vm_i2l pc ls st w
  | .l2i => vm_l2i pc ls st w
  | .dup => vm_dup pc ls st w
  | .dup2 => vm_dup2 pc ls st w
  | .pop => vm_pop pc ls st w
  | .getfield _ => vm_get a b pc ls st w
  | .putfield _ => vm_put r a b pc ls st w
  | .iaload => vm_ald pc ls st w
  | .iastore => vm_ast pc ls st w
  | .aaload => vm_qld pc ls st w
  | .aastore => vm_qst pc ls st w
  | .arraylength => vm_alen pc ls st w
  | .newarray _ => vm_newi pc ls st w
  | .anewarray _ => vm_newq pc ls st w
  | .new _ => vm_new a pc ls st w
  | .goto off => vm_jmp pc off ls st w
  | .ifCond c off => vm_if0 c pc off ls st w
  | .if_icmp c off => vm_if2 c pc off ls st w
  | .ifnull off => vm_ifn false pc off ls st w
  | .ifnonnull off => vm_ifn true pc off ls st w
  | .tableswitch d lo hi os => vm_tab pc d lo hi os ls st w
  | .lookupswitch d ps => vm_lku pc d ps ls st w
  | .invokespecial _ => if a = 5 then vm_oin d pc ls st w else none
  | .invokevirtual _ => if a = 6 then vm_sln d pc ls st w else if a = 7 then vm_sch d pc ls st w else none
  | _ => none
/-- what a return hands back -/
def vm_ret (r : vm_M) (q : vm_I) (st : List Value) : Option (Option Value) := match q.2.1 with
  | .ireturn => match st with
    | [.int v] => match r.2.2.2.2.1 with
      | some .int => some (some (.int v))
      | some .boolean => if v = 0 ∨ v = 1 then some (some (.int v)) else none
      | _ => none
    | _ => none
  | .areturn => match st with
    | [.ref v] => match r.2.2.2.2.1 with
      | some (.object _) => some (some (.ref v))
      | _ => none
    | _ => none
  | .return_ => match st with
    | [] => match r.2.2.2.2.1 with
      | none => some none
      | _ => none
    | _ => none
  | _ => none
/-- a call: the callee, its arguments (the receiver first), the rest of the stack -/
def vm_call (q : vm_I) (st : List Value) (w : vm_W) : Option (Nat × List Value × List Value) :=
  let a := q.2.2.2.1
  let b := q.2.2.2.2.1
  let n := q.2.2.2.2.2 % 100
  let c := q.2.2.2.2.2 / 100
  match q.2.1 with
  | .invokevirtual _ => if a = 0 then match st[n]? with
    | some (.ref i) => if i < w.1 then match w.2.2 i with
      | .inr (.inr (ci, _)) => if ci = c ∧ ((st.drop (n + 1)).map fun v => v.category).sum ≤ 8 then some (b, (st.take (n + 1)).reverse, st.drop (n + 1)) else none
      | _ => none
      else none
    | _ => none
    else none
  | .invokestatic _ => if n ≤ st.length ∧ ((st.drop n).map fun v => v.category).sum ≤ 8 then some (b, (st.take n).reverse, st.drop n) else none
  | .invokespecial _ => if a = 2 ∨ a = 4 then match st[n]? with
    | some (.ref _) => if ((st.drop (n + 1)).map fun v => v.category).sum ≤ 8 then some (b, (st.take (n + 1)).reverse, st.drop (n + 1)) else none
    | _ => none
    else none
  | _ => none
def vm_args (as : List Value) : vm_L := as.flatMap fun v => if v.category = 2 then [some v, none] else [some v]
def vm_ent (n : Nat) (as : List Value) : vm_L := vm_args as ++ List.replicate (n - (vm_args as).length) none
def vm_find (l : List vm_I) (pc : Nat) : Option vm_I := match l with
  | [] => none
  | q :: l => if q.1 = pc then some q else vm_find l pc
/-- a run: fuel, how many frames may stand above, the method, its frame, the world -/
def vm_run : Nat → Nat → Nat → Nat → vm_L → List Value → vm_W → Option (Option Value × vm_W)
  | 0, _, _, _, _, _, _ => none
  | F + 1, d, mid, pc, ls, st, w =>
    match vm_MT[mid]? with
    | none => none
    | some r => match vm_find r.2.2.2.2.2 pc with
      | none => none
      | some q => match vm_ret r q st with
        | some v => some (v, w)
        | none => match vm_call q st w with
          | some (mid', as, rest) => match d with
            | 0 => none
            | d' + 1 => if mid' < 205 then match vm_MT[mid']? with
              | none => none
              | some r' => if (vm_args as).length ≤ r'.2.2.2.1 then match vm_run F d' mid' 0 (vm_ent r'.2.2.2.1 as) [] w with
                | none => none
                | some (v, w') => vm_run F (d' + 1) mid (pc + 3) ls (v.toList ++ rest) w'
                else none
              else none
          | none => match vm_step d r q ls st w with
            | none => none
            | some (pc', ls', st', w') => vm_run F d mid pc' ls' st' w'
end
section
/-! what the pure machine's state is of the real one -/
def vm_r (base b adS : Nat) (i : Nat) : Nat := if i = vm_scr then b else if i = vm_str then adS else base + i
def vm_v (ρ : Nat → Nat) (v : Value) : Value := match v with
  | .ref a => .ref (ρ a)
  | v => v
def vm_c (ρ : Nat → Nat) (κ : Nat → ClassId) (e : vm_E) : va_E := match e with
  | .inl (n, f) => .inl (κ 0, n, .inl f)
  | .inr (.inl (n, g)) => .inl (κ 1, n, .inr (.inr (.inr (.inr (fun j => (g j).map ρ)))))
  | .inr (.inr (ci, fs)) => .inr (ci, fs.map (vm_v ρ))
def vm_H (D : va_G) (κ : Nat → ClassId) (base b adS L : Nat) (xs : Nat → Int32) (w : vm_W) (H : Heap) : Prop :=
  H.size = base + w.1 ∧ w.1 ≤ 1000 ∧ w.2.2 vm_scr = .inl (L, xs) ∧ ∀ i, i < w.1 → va_at D vwCl (base + i, vm_c (vm_r base b adS) κ (w.2.2 i)) H
def vm_LV (ρ : Nat → Nat) (lsr : Array Slot) (nL : Nat) (ls : vm_L) : Prop := ls.length = nL ∧ lsr.size = nL ∧ lv_wf lsr ∧ ∀ i v, vm_ld ls i = some v → lsr[i]? = some (.val (vm_v ρ v))
/-- the world in the heap, what is below it as at the start, only what is above written to -/
def vm_T (D : va_G) (κ : Nat → ClassId) (base b adS L : Nat) (xs : Nat → Int32) (H0 : Heap) (w : vm_W) (H : Heap) (locs : List Loc) : Prop :=
  vm_H D κ base b adS L xs w H ∧ (base ≤ H0.size ∧ H0.size ≤ H.size) ∧ (∀ q : Nat, q < base → H[q]? = H0[q]?) ∧ ∀ q ∈ locs, base ≤ q.base
theorem vm_v_cat (ρ : Nat → Nat) (v : Value) : (vm_v ρ v).category = v.category := by cases v <;> rfl
theorem vm_r_lt {base b adS i : Nat} (h : i < 1000) : vm_r base b adS i = base + i := by
  unfold vm_r
  rw [if_neg (by show ¬ i = 1000000; omega), if_neg (by show ¬ i = 1000001; omega)]
theorem vm_ld_lt {ls : vm_L} : ∀ {i : Nat} {v : Value}, vm_ld ls i = some v → i < ls.length := by
  induction ls with
  | nil => intro i v h; cases h
  | cons a t ih =>
    intro i v h
    cases i with
    | zero => exact Nat.zero_lt_succ _
    | succ i => exact Nat.succ_lt_succ (ih h)
theorem vm_nl_some {x : Option Value} {u : Value} (h : vm_nl x = some u) : x = some u ∧ ¬ u.category = 2 := by
  cases x with
  | none => cases h
  | some v => cases v <;> first | (cases h; done) | (injection h with h; subst h; exact ⟨rfl, fun z => absurd (show (1 : Nat) = 2 from z) (by decide)⟩)
theorem vm_st1_len {v : Value} : ∀ (ls : vm_L) (i : Nat), (vm_st1 ls i v).length = ls.length := by
  intro ls
  induction ls with
  | nil => intro i; cases i <;> rfl
  | cons a t ih =>
    intro i
    match i with
    | 0 => rfl
    | 1 => cases t <;> rfl
    | i + 2 => show (vm_st1 t (i + 1) v).length + 1 = t.length + 1; rw [ih]
theorem vm_st1_spec {v : Value} : ∀ (ls : vm_L) (i j : Nat) (u : Value), i < ls.length → vm_ld (vm_st1 ls i v) j = some u → (j = i ∧ u = v) ∨ (j ≠ i ∧ vm_ld ls j = some u ∧ ¬ (j + 1 = i ∧ u.category = 2)) := by
  intro ls
  induction ls with
  | nil => intro i j u h; cases h
  | cons a t ih =>
    intro i j u hi h
    match i, hi, h with
    | 0, _, h =>
      cases j with
      | zero => injection h with h; exact Or.inl ⟨rfl, h.symm⟩
      | succ j => exact Or.inr ⟨by omega, h, by omega⟩
    | 1, hi, h =>
      cases t with
      | nil => exact absurd hi (by show ¬ 1 < 1; omega)
      | cons a2 t2 =>
        match j, h with
        | 0, h =>
          obtain ⟨h1, h2⟩ := vm_nl_some (show vm_nl a = some u from h)
          exact Or.inr ⟨by omega, h1, fun z => h2 z.2⟩
        | 1, h => injection (show some v = some u from h) with h; exact Or.inl ⟨rfl, h.symm⟩
        | j + 2, h => exact Or.inr ⟨by omega, h, by omega⟩
    | i + 2, hi, h =>
      cases j with
      | zero => exact Or.inr ⟨by omega, h, by omega⟩
      | succ j =>
        rcases ih (i + 1) j u (Nat.lt_of_succ_lt_succ hi) h with ⟨h1, h2⟩ | ⟨h1, h2, h3⟩
        · exact Or.inl ⟨by omega, h2⟩
        · exact Or.inr ⟨by omega, h2, fun z => h3 ⟨by omega, z.2⟩⟩
theorem vm_st2_len {v : Value} : ∀ (ls : vm_L) (i : Nat), i + 1 < ls.length → (vm_st2 ls i v).length = ls.length := by
  intro ls
  induction ls with
  | nil => intro i h; cases h
  | cons a t ih =>
    intro i h
    match i, h with
    | 0, h =>
      have h : 1 < t.length + 1 := h
      show (t.drop 1).length + 1 + 1 = t.length + 1
      rw [List.length_drop]; omega
    | 1, h =>
      cases t with
      | nil => exact absurd h (by show ¬ 2 < 1; omega)
      | cons a2 t2 =>
        have h : 2 < t2.length + 1 + 1 := h
        show (t2.drop 1).length + 1 + 1 + 1 = t2.length + 1 + 1
        rw [List.length_drop]; omega
    | i + 2, h => show (vm_st2 t (i + 1) v).length + 1 = t.length + 1; rw [ih _ (by have h : i + 2 + 1 < t.length + 1 := h; omega)]
theorem vm_ld_drop1 {t : vm_L} {j : Nat} : vm_ld (t.drop 1) j = vm_ld t (j + 1) := by cases t <;> rfl
theorem vm_st2_spec {v : Value} : ∀ (ls : vm_L) (i j : Nat) (u : Value), i + 1 < ls.length → vm_ld (vm_st2 ls i v) j = some u → (j = i ∧ u = v) ∨ (j ≠ i ∧ j ≠ i + 1 ∧ vm_ld ls j = some u ∧ ¬ (j + 1 = i ∧ u.category = 2)) := by
  intro ls
  induction ls with
  | nil => intro i j u h; cases h
  | cons a t ih =>
    intro i j u hi h
    match i, hi, h with
    | 0, _, h =>
      match j, h with
      | 0, h => injection (show some v = some u from h) with h; exact Or.inl ⟨rfl, h.symm⟩
      | 1, h => cases (show (none : Option Value) = some u from h)
      | j + 2, h =>
        have h : vm_ld (t.drop 1) j = some u := h
        rw [vm_ld_drop1] at h
        exact Or.inr ⟨by omega, by omega, h, by omega⟩
    | 1, hi, h =>
      cases t with
      | nil => exact absurd hi (by show ¬ 2 < 1; omega)
      | cons a2 t2 =>
        match j, h with
        | 0, h =>
          obtain ⟨h1, h2⟩ := vm_nl_some (show vm_nl a = some u from h)
          exact Or.inr ⟨by omega, by omega, h1, fun z => h2 z.2⟩
        | 1, h => injection (show some v = some u from h) with h; exact Or.inl ⟨rfl, h.symm⟩
        | 2, h => cases (show (none : Option Value) = some u from h)
        | j + 3, h =>
          have h : vm_ld (t2.drop 1) j = some u := h
          rw [vm_ld_drop1] at h
          exact Or.inr ⟨by omega, by omega, h, by omega⟩
    | i + 2, hi, h =>
      cases j with
      | zero => exact Or.inr ⟨by omega, by omega, h, by omega⟩
      | succ j =>
        rcases ih (i + 1) j u (Nat.lt_of_succ_lt_succ hi) h with ⟨h1, h2⟩ | ⟨h1, h2, h3, h4⟩
        · exact Or.inl ⟨by omega, h2⟩
        · exact Or.inr ⟨by omega, by omega, h3, fun z => h4 ⟨by omega, z.2⟩⟩
def vm_kn (ρ : Nat → Nat) (ls : vm_L) : List (Nat × Value) := (List.range ls.length).filterMap fun i => (vm_ld ls i).map fun v => (i, vm_v ρ v)
theorem vm_kn_in {ρ : Nat → Nat} {ls : vm_L} {i : Nat} {v : Value} (h : vm_ld ls i = some v) : (i, vm_v ρ v) ∈ vm_kn ρ ls :=
  List.mem_filterMap.mpr ⟨i, List.mem_range.mpr (vm_ld_lt h), by rw [h]; rfl⟩
theorem vm_has {ρ : Nat → Nat} {lsr : Array Slot} {nL : Nat} {ls : vm_L} (h : vm_LV ρ lsr nL ls) : lv_has lsr nL (vm_kn ρ ls) := by
  refine ⟨h.2.1, h.2.2.1, fun q hq => ?_⟩
  obtain ⟨i, -, hi⟩ := List.mem_filterMap.mp hq
  cases hl : vm_ld ls i with
  | none => rw [hl] at hi; cases hi
  | some v =>
    rw [hl] at hi
    injection hi with hi
    subst hi
    exact h.2.2.2 i v hl
theorem vm_LV_st1 {ρ : Nat → Nat} {lsr ls' : Array Slot} {nL i : Nat} {ls : vm_L} {v : Value} (h : vm_LV ρ lsr nL ls) (hi : i < ls.length) (h' : lv_has ls' nL ((i, vm_v ρ v) :: (vm_kn ρ ls).filter (fun q => !(q.1 == i) && !(q.1 + 1 == i && q.2.category == 2)))) : vm_LV ρ ls' nL (vm_st1 ls i v) := by
  refine ⟨(vm_st1_len ls i).trans h.1, h'.1, h'.2.1, fun j u hj => ?_⟩
  rcases vm_st1_spec ls i j u hi hj with ⟨rfl, rfl⟩ | ⟨h1, h2, h3⟩
  · exact h'.2.2 _ List.mem_cons_self
  · refine h'.2.2 (j, vm_v ρ u) (List.mem_cons_of_mem _ (List.mem_filter.mpr ⟨vm_kn_in h2, ?_⟩))
    have e1 : (j == i) = false := by simpa using h1
    have e2 : (j + 1 == i && (vm_v ρ u).category == 2) = false := by
      rw [vm_v_cat]
      simp only [Bool.and_eq_false_iff, beq_eq_false_iff_ne, ne_eq]
      by_cases z : j + 1 = i
      · exact Or.inr fun y => h3 ⟨z, y⟩
      · exact Or.inl z
    show (!(j == i) && !(j + 1 == i && (vm_v ρ u).category == 2)) = true
    rw [e1, e2]; rfl
theorem vm_LV_st2 {ρ : Nat → Nat} {lsr ls' : Array Slot} {nL i : Nat} {ls : vm_L} {v : Value} (h : vm_LV ρ lsr nL ls) (hi : i + 1 < ls.length) (h' : lv_has ls' nL ((i, vm_v ρ v) :: (vm_kn ρ ls).filter (fun q => !(q.1 == i) && (!(q.1 == i + 1) && !(q.1 + 1 == i && q.2.category == 2))))) : vm_LV ρ ls' nL (vm_st2 ls i v) := by
  refine ⟨(vm_st2_len ls i hi).trans h.1, h'.1, h'.2.1, fun j u hj => ?_⟩
  rcases vm_st2_spec ls i j u hi hj with ⟨rfl, rfl⟩ | ⟨h1, h1', h2, h3⟩
  · exact h'.2.2 _ List.mem_cons_self
  · refine h'.2.2 (j, vm_v ρ u) (List.mem_cons_of_mem _ (List.mem_filter.mpr ⟨vm_kn_in h2, ?_⟩))
    have e1 : (j == i) = false := by simpa using h1
    have e3 : (j == i + 1) = false := by simpa using h1'
    have e2 : (j + 1 == i && (vm_v ρ u).category == 2) = false := by
      rw [vm_v_cat]
      simp only [Bool.and_eq_false_iff, beq_eq_false_iff_ne, ne_eq]
      by_cases z : j + 1 = i
      · exact Or.inr fun y => h3 ⟨z, y⟩
      · exact Or.inl z
    show (!(j == i) && (!(j == i + 1) && !(j + 1 == i && (vm_v ρ u).category == 2))) = true
    rw [e1, e2, e3]; rfl
/-- the heap behind a write to one cell -/
theorem vm_H_up {D : va_G} {κ : Nat → ClassId} {base b adS L : Nat} {xs : Nat → Int32} {w : vm_W} {H H1 : Heap} {i : Nat} {x : vm_E} (h : vm_H D κ base b adS L xs w H) (hi : i < w.1) (hz : H1.size = H.size) (ho : ∀ q : Nat, q ≠ base + i → H1[q]? = H[q]?) (hx : va_at D vwCl (base + i, vm_c (vm_r base b adS) κ x) H1) :
    vm_H D κ base b adS L xs (w.1, w.2.1, vm_up w.2.2 i x) H1 := by
  obtain ⟨h1, h2, h3, h4⟩ := h
  refine ⟨hz.trans h1, h2, ?_, fun j hj => ?_⟩
  · show vm_up w.2.2 i x vm_scr = _
    unfold vm_up
    rw [if_neg (by show ¬ 1000000 = i; omega)]
    exact h3
  · show va_at D vwCl (base + j, vm_c _ κ (vm_up w.2.2 i x j)) H1
    unfold vm_up
    by_cases hji : j = i
    · rw [if_pos hji, hji]; exact hx
    · rw [if_neg hji]
      exact (h4 j hj).kept (ho _ (by omega))
/-- the heap behind a new cell -/
theorem vm_H_push {D : va_G} {κ : Nat → ClassId} {base b adS L : Nat} {xs : Nat → Int32} {w : vm_W} {H H1 : Heap} {x : vm_E} {k : Nat} (h : vm_H D κ base b adS L xs w H) (hn : w.1 < 1000) (hz : H1.size = H.size + 1) (ho : ∀ q : Nat, q < H.size → H1[q]? = H[q]?) (hx : va_at D vwCl (base + w.1, vm_c (vm_r base b adS) κ x) H1) :
    vm_H D κ base b adS L xs (w.1 + 1, k, vm_up w.2.2 w.1 x) H1 := by
  obtain ⟨h1, h2, h3, h4⟩ := h
  refine ⟨by rw [hz, h1]; rfl, hn, ?_, fun j hj => ?_⟩
  · show vm_up w.2.2 w.1 x vm_scr = _
    unfold vm_up
    rw [if_neg (by show ¬ 1000000 = w.1; omega)]
    exact h3
  · show va_at D vwCl (base + j, vm_c _ κ (vm_up w.2.2 w.1 x j)) H1
    unfold vm_up
    by_cases hji : j = w.1
    · rw [if_pos hji, hji]; exact hx
    · rw [if_neg hji]
      have hj : j < w.1 + 1 := hj
      exact (h4 j (by omega)).kept (ho _ (by show base + j < H.size; omega))
end
section
/-! the literal: where it lies; its length() and charAt(j) -/
def vm_tx : String := "t1203;t2194;t4330;t0952;t5149;t9995;r0;r1;r0;r2;c0,9,3,2,1,2;c2,5,1,4,2,0;c0,12,0,0,3,3;"
def vm_byt : List Int32 := vm_txt
def vm_SI (adS adV base : Nat) (U : State) : Prop :=
  vk_R RX10 89 vm_tx adS U ∧ vk_S 1 [87] [vm_byt] (fun _ => adS) (fun _ => adV) (fun q => base ≤ q) U U.heap ∧ va_Z "java/lang/String" "COMPACT_STRINGS" "Z" (.int 1) (fun q => base ≤ q) U U.heap ∧ va_Zq "jdk/internal/util/Preconditions" "SIOOBE_FORMATTER" "Ljava/util/function/BiFunction;" (fun q => base ≤ q) U U.heap
def vm_rmS : Room := { frames := 8, cells := 0, slots := 0, locals := 340 }
def vm_wl : List Cond := .code yJ0_length_8abf5 cJ0_length_8abf5 1 (some .int) :: vm_G
def vm_wc : List Cond := .code yJ0_charAt_5068e cJ0_charAt_5068e 2 (some .char) :: vm_G
theorem vm_c_length (l : Launch) (base adS adV : Nat) : Met l yJ0_length_8abf5 vm_wl vm_rmS (fun a U => a = #[.ref adS] ∧ vm_SI adS adV base U) (fun _ st o t => o = .returned (some (.int (Int32.ofNat vm_txt.length))) ∧ t.heap = st.heap) 0 0 (fun q => base ≤ q) := by
  sorry
theorem vm_c_charAt (l : Launch) (base adS adV : Nat) (j z : Int32) (h0 : ¬ j < 0) (hz : vm_txt[j.toNatClampNeg]? = some z) : Met l yJ0_charAt_5068e vm_wc vm_rmS (fun a U => a = #[.ref adS, .int j] ∧ vm_SI adS adV base U) (fun _ st o t => o = .returned (some (.int z)) ∧ t.heap = st.heap) 0 0 (fun q => base ≤ q) := by
  sorry
end
section
/-! one instruction of the pure machine is one of the real one -/
def vm_C (D : va_G) (κ : Nat → ClassId) (base b adS adV L : Nat) (xs : Nat → Int32) (p : Program) (s : State) (m : MethodId) (args : Array Value) (meth : Method) (c : Code) (r : vm_M) : Prop :=
  p.tables.exec = Jvm.exec ∧ c.code = r.2.2.1 ∧ c.maxLocals = r.2.2.2.1 ∧ s.vm.findClass r.1 = some m.cls ∧ (∀ w ∈ vm_G, w.before args s = true) ∧ va_K D vwCl [(κ 0, .int), (κ 1, .object RX0)] s ∧ va_AO RX0 s ∧ (∀ q ∈ vm_nest, va_Nw (.methodLinkNest q.1 q.2.1 q.2.2.1 q.2.2.2) s) ∧ (r.2.1.name = "<init>" → meth.name = "<init>") ∧ meth.sig.returnType = r.2.2.2.2.1 ∧ meth.locks = false ∧ va_X b L xs s s.heap ∧ b < base ∧ vm_SI adS adV base s
theorem vm_bin_i {pc pc' : Nat} {ls ls' : vm_L} {st st' : List Value} {w w' : vm_W} {f : Int32 → Int32 → Option Int32} (h : vm_bin pc ls st w f = some (pc', ls', st', w')) : ∃ x y z st0, st = .int y :: .int x :: st0 ∧ f x y = some z ∧ pc' = pc + 1 ∧ ls = ls' ∧ st' = .int z :: st0 ∧ w = w' := by
  unfold vm_bin at h
  split at h
  · split at h
    · rename_i z hz
      injection h with h; injection h with h1 h; injection h with h2 h; injection h with h3 h4
      exact ⟨_, _, z, _, rfl, hz, h1.symm, h2, h3.symm, h4⟩
    · cases h
  · cases h
theorem vm_lbin_i {pc pc' : Nat} {ls ls' : vm_L} {st st' : List Value} {w w' : vm_W} {f : Int64 → Int64 → Option Value} (h : vm_lbin pc ls st w f = some (pc', ls', st', w')) : ∃ x y z st0, st = .long y :: .long x :: st0 ∧ f x y = some z ∧ pc' = pc + 1 ∧ ls = ls' ∧ st' = z :: st0 ∧ w = w' := by
  unfold vm_lbin at h
  split at h
  · split at h
    · rename_i z hz
      injection h with h; injection h with h1 h; injection h with h2 h; injection h with h3 h4
      exact ⟨_, _, z, _, rfl, hz, h1.symm, h2, h3.symm, h4⟩
    · cases h
  · cases h
theorem vm_push_i {x : Option Value} {f : Value → Bool} {pc pc' : Nat} {ls ls' : vm_L} {st st' : List Value} {w w' : vm_W} (h : vm_push x f pc ls st w = some (pc', ls', st', w')) : ∃ v, x = some v ∧ f v = true ∧ pc' = pc ∧ ls = ls' ∧ st' = v :: st ∧ w = w' := by
  unfold vm_push at h
  split at h
  · split at h
    · rename_i v hv
      injection h with h; injection h with h1 h; injection h with h2 h; injection h with h3 h4
      exact ⟨_, rfl, hv, h1.symm, h2, h3.symm, h4⟩
    · cases h
  · cases h
theorem vm_isI_i {v : Value} (h : vm_isI v = true) : ∃ x, v = .int x := by cases v <;> first | exact ⟨_, rfl⟩ | cases h
theorem vm_isJ_i {v : Value} (h : vm_isJ v = true) : ∃ x, v = .long x := by cases v <;> first | exact ⟨_, rfl⟩ | cases h
theorem vm_isA_i {v : Value} (h : vm_isA v = true) : ∃ x, v = .ref x := by cases v <;> first | exact ⟨_, rfl⟩ | cases h
theorem vm_sti_i {k pc pc' : Nat} {ls ls' : vm_L} {st st' : List Value} {w w' : vm_W} (h : vm_sti pc k ls st w = some (pc', ls', st', w')) : ∃ x st0, st = .int x :: st0 ∧ k < ls.length ∧ pc' = pc ∧ ls' = vm_st1 ls k (.int x) ∧ st0 = st' ∧ w = w' := by
  unfold vm_sti at h
  split at h
  · split at h
    · rename_i hv
      injection h with h; injection h with h1 h; injection h with h2 h; injection h with h3 h4
      exact ⟨_, _, rfl, hv, h1.symm, h2.symm, h3, h4⟩
    · cases h
  · cases h
theorem vm_sta_i {k pc pc' : Nat} {ls ls' : vm_L} {st st' : List Value} {w w' : vm_W} (h : vm_sta pc k ls st w = some (pc', ls', st', w')) : ∃ x st0, st = .ref x :: st0 ∧ k < ls.length ∧ pc' = pc ∧ ls' = vm_st1 ls k (.ref x) ∧ st0 = st' ∧ w = w' := by
  unfold vm_sta at h
  split at h
  · split at h
    · rename_i hv
      injection h with h; injection h with h1 h; injection h with h2 h; injection h with h3 h4
      exact ⟨_, _, rfl, hv, h1.symm, h2.symm, h3, h4⟩
    · cases h
  · cases h
theorem vm_stl_i {k pc pc' : Nat} {ls ls' : vm_L} {st st' : List Value} {w w' : vm_W} (h : vm_stl pc k ls st w = some (pc', ls', st', w')) : ∃ x st0, st = .long x :: st0 ∧ k + 1 < ls.length ∧ pc' = pc ∧ ls' = vm_st2 ls k (.long x) ∧ st0 = st' ∧ w = w' := by
  unfold vm_stl at h
  split at h
  · split at h
    · rename_i hv
      injection h with h; injection h with h1 h; injection h with h2 h; injection h with h3 h4
      exact ⟨_, _, rfl, hv, h1.symm, h2.symm, h3, h4⟩
    · cases h
  · cases h
theorem vm_iinc_i {k pc pc' : Nat} {n : Int} {ls ls' : vm_L} {st st' : List Value} {w w' : vm_W} (h : vm_iinc pc k n ls st w = some (pc', ls', st', w')) : ∃ x, vm_ld ls k = some (.int x) ∧ k < ls.length ∧ pc' = pc + 3 ∧ ls' = vm_st1 ls k (.int (x + Int32.ofInt n)) ∧ st = st' ∧ w = w' := by
  unfold vm_iinc at h
  split at h
  · split at h
    · rename_i hx hv
      injection h with h; injection h with h1 h; injection h with h2 h; injection h with h3 h4
      exact ⟨_, hx, hv, h1.symm, h2.symm, h3, h4⟩
    · cases h
  · cases h
theorem vm_jmp_i {pc pc' : Nat} {off : Int} {ls ls' : vm_L} {st st' : List Value} {w w' : vm_W} (h : vm_jmp pc off ls st w = some (pc', ls', st', w')) : (pc : Int) + off = (pc' : Int) ∧ ls = ls' ∧ st = st' ∧ w = w' := by
  unfold vm_jmp at h
  split at h
  · rename_i hv
    injection h with h; injection h with h1 h; injection h with h2 h; injection h with h3 h4
    refine ⟨?_, h2, h3, h4⟩
    rw [← h1]; unfold vm_tg; omega
  · cases h
theorem vm_if0_i {cd : Jvm.ClassFile.Cond} {pc pc' : Nat} {off : Int} {ls ls' : vm_L} {st st' : List Value} {w w' : vm_W} (h : vm_if0 cd pc off ls st w = some (pc', ls', st', w')) : ∃ x st0 tgt, st = .int x :: st0 ∧ (pc : Int) + off = ((tgt : Nat) : Int) ∧ ((vm_cmp cd x 0 = true ∧ pc' = tgt) ∨ (¬ vm_cmp cd x 0 = true ∧ pc' = pc + 3)) ∧ ls = ls' ∧ st0 = st' ∧ w = w' := by
  unfold vm_if0 at h
  split at h
  · split at h
    · rename_i hv
      have ht : (pc : Int) + off = ((vm_tg pc off : Nat) : Int) := by unfold vm_tg; omega
      split at h
      · rename_i hc
        injection h with h; injection h with h1 h; injection h with h2 h; injection h with h3 h4
        exact ⟨_, _, _, rfl, ht, Or.inl ⟨hc, h1.symm⟩, h2, h3, h4⟩
      · rename_i hc
        injection h with h; injection h with h1 h; injection h with h2 h; injection h with h3 h4
        exact ⟨_, _, _, rfl, ht, Or.inr ⟨hc, h1.symm⟩, h2, h3, h4⟩
    · cases h
  · cases h
theorem vm_if2_i {cd : Jvm.ClassFile.Cond} {pc pc' : Nat} {off : Int} {ls ls' : vm_L} {st st' : List Value} {w w' : vm_W} (h : vm_if2 cd pc off ls st w = some (pc', ls', st', w')) : ∃ x y st0 tgt, st = .int y :: .int x :: st0 ∧ (pc : Int) + off = ((tgt : Nat) : Int) ∧ ((vm_cmp cd x y = true ∧ pc' = tgt) ∨ (¬ vm_cmp cd x y = true ∧ pc' = pc + 3)) ∧ ls = ls' ∧ st0 = st' ∧ w = w' := by
  unfold vm_if2 at h
  split at h
  · split at h
    · rename_i hv
      have ht : (pc : Int) + off = ((vm_tg pc off : Nat) : Int) := by unfold vm_tg; omega
      split at h
      · rename_i hc
        injection h with h; injection h with h1 h; injection h with h2 h; injection h with h3 h4
        exact ⟨_, _, _, _, rfl, ht, Or.inl ⟨hc, h1.symm⟩, h2, h3, h4⟩
      · rename_i hc
        injection h with h; injection h with h1 h; injection h with h2 h; injection h with h3 h4
        exact ⟨_, _, _, _, rfl, ht, Or.inr ⟨hc, h1.symm⟩, h2, h3, h4⟩
    · cases h
  · cases h
theorem vm_ifn_i {nn : Bool} {pc pc' : Nat} {off : Int} {ls ls' : vm_L} {st st' : List Value} {w w' : vm_W} (h : vm_ifn nn pc off ls st w = some (pc', ls', st', w')) : ∃ x st0 tgt, st = .ref x :: st0 ∧ (pc : Int) + off = ((tgt : Nat) : Int) ∧ pc' = (if nn = true then tgt else pc + 3) ∧ ls = ls' ∧ st0 = st' ∧ w = w' := by
  unfold vm_ifn at h
  split at h
  · split at h
    · rename_i hv
      have ht : (pc : Int) + off = ((vm_tg pc off : Nat) : Int) := by unfold vm_tg; omega
      injection h with h; injection h with h1 h; injection h with h2 h; injection h with h3 h4
      exact ⟨_, _, _, rfl, ht, h1.symm, h2, h3, h4⟩
    · cases h
  · cases h
theorem vm_get_i {a b pc pc' : Nat} {ls ls' : vm_L} {st st' : List Value} {w w' : vm_W} (h : vm_get a b pc ls st w = some (pc', ls', st', w')) : ∃ i st0 fs v, st = .ref i :: st0 ∧ i < w.1 ∧ w.2.2 i = .inr (.inr (a, fs)) ∧ fs[b]? = some v ∧ pc' = pc + 3 ∧ ls = ls' ∧ st' = v :: st0 ∧ w = w' := by
  unfold vm_get at h
  split at h
  · split at h
    · rename_i hi
      split at h
      · rename_i ci fs he
        split at h
        · rename_i hc
          subst hc
          split at h
          · rename_i v hv
            injection h with h; injection h with h1 h; injection h with h2 h; injection h with h3 h4
            exact ⟨_, _, fs, v, rfl, hi, he, hv, h1.symm, h2, h3.symm, h4⟩
          · cases h
        · cases h
      · cases h
    · cases h
  · cases h
theorem vm_put_i {r : vm_M} {a b pc pc' : Nat} {ls ls' : vm_L} {st st' : List Value} {w w' : vm_W} (h : vm_put r a b pc ls st w = some (pc', ls', st', w')) : ∃ i st0 fs v, st = v :: .ref i :: st0 ∧ i < w.1 ∧ w.2.2 i = .inr (.inr (a, fs)) ∧ b < fs.length ∧ vm_fit (vm_ty a b) v = true ∧ vm_fin r a b = true ∧ pc' = pc + 3 ∧ ls = ls' ∧ st0 = st' ∧ w' = (w.1, w.2.1, vm_up w.2.2 i (.inr (.inr (a, fs.set b v)))) := by
  unfold vm_put at h
  split at h
  · split at h
    · rename_i hi
      split at h
      · rename_i ci fs he
        split at h
        · rename_i hc
          obtain ⟨rfl, c1, c2, c3⟩ := hc
          injection h with h; injection h with h1 h; injection h with h2 h; injection h with h3 h4
          exact ⟨_, _, fs, _, rfl, hi, he, c1, c2, c3, h1.symm, h2, h3, h4.symm⟩
        · cases h
      · cases h
    · cases h
  · cases h
theorem vm_ald_i {pc pc' : Nat} {ls ls' : vm_L} {st st' : List Value} {w w' : vm_W} (h : vm_ald pc ls st w = some (pc', ls', st', w')) : ∃ i j st0 n f, st = .int j :: .ref i :: st0 ∧ (i < w.1 ∨ i = vm_scr) ∧ w.2.2 i = .inl (n, f) ∧ vp_in j n ∧ pc' = pc + 1 ∧ ls = ls' ∧ st' = .int (f j.toNatClampNeg) :: st0 ∧ w = w' := by
  unfold vm_ald at h
  split at h
  · split at h
    · rename_i hi
      split at h
      · rename_i n f he
        split at h
        · cases h
        · rename_i hj
          injection h with h; injection h with h1 h; injection h with h2 h; injection h with h3 h4
          exact ⟨_, _, _, n, f, rfl, hi, he, hj, h1.symm, h2, h3.symm, h4⟩
      · cases h
    · cases h
  · cases h
theorem vm_ast_i {pc pc' : Nat} {ls ls' : vm_L} {st st' : List Value} {w w' : vm_W} (h : vm_ast pc ls st w = some (pc', ls', st', w')) : ∃ i j x st0 n f, st = .int x :: .int j :: .ref i :: st0 ∧ i < w.1 ∧ w.2.2 i = .inl (n, f) ∧ vp_in j n ∧ pc' = pc + 1 ∧ ls = ls' ∧ st0 = st' ∧ w' = (w.1, w.2.1, vm_up w.2.2 i (.inl (n, upd f j.toNatClampNeg x))) := by
  unfold vm_ast at h
  split at h
  · split at h
    · rename_i hi
      split at h
      · rename_i n f he
        split at h
        · cases h
        · rename_i hj
          injection h with h; injection h with h1 h; injection h with h2 h; injection h with h3 h4
          exact ⟨_, _, _, _, n, f, rfl, hi, he, hj, h1.symm, h2, h3, h4.symm⟩
      · cases h
    · cases h
  · cases h
theorem vm_qld_i {pc pc' : Nat} {ls ls' : vm_L} {st st' : List Value} {w w' : vm_W} (h : vm_qld pc ls st w = some (pc', ls', st', w')) : ∃ i j st0 n g k, st = .int j :: .ref i :: st0 ∧ i < w.1 ∧ w.2.2 i = .inr (.inl (n, g)) ∧ vp_in j n ∧ g j.toNatClampNeg = some k ∧ pc' = pc + 1 ∧ ls = ls' ∧ st' = .ref k :: st0 ∧ w = w' := by
  unfold vm_qld at h
  split at h
  · split at h
    · rename_i hi
      split at h
      · rename_i n f he
        split at h
        · cases h
        · rename_i hj
          split at h
          · rename_i k hk
            injection h with h; injection h with h1 h; injection h with h2 h; injection h with h3 h4
            exact ⟨_, _, _, n, f, k, rfl, hi, he, hj, hk, h1.symm, h2, h3.symm, h4⟩
          · cases h
      · cases h
    · cases h
  · cases h
theorem vm_isC_i {e : vm_E} (h : vm_isC e = true) : ∃ fs, e = .inr (.inr (0, fs)) := by
  unfold vm_isC at h
  split at h
  · exact ⟨_, rfl⟩
  · cases h
theorem vm_qst_i {pc pc' : Nat} {ls ls' : vm_L} {st st' : List Value} {w w' : vm_W} (h : vm_qst pc ls st w = some (pc', ls', st', w')) : ∃ i j v st0 n g fs, st = .ref v :: .int j :: .ref i :: st0 ∧ i < w.1 ∧ v < w.1 ∧ w.2.2 v = .inr (.inr (0, fs)) ∧ w.2.2 i = .inr (.inl (n, g)) ∧ vp_in j n ∧ pc' = pc + 1 ∧ ls = ls' ∧ st0 = st' ∧ w' = (w.1, w.2.1, vm_up w.2.2 i (.inr (.inl (n, va_up g j.toNatClampNeg (some v))))) := by
  unfold vm_qst at h
  split at h
  · split at h
    · rename_i hi
      obtain ⟨h1, h2, h3⟩ := hi
      obtain ⟨fs, hfs⟩ := vm_isC_i h3
      split at h
      · rename_i n f he
        split at h
        · cases h
        · rename_i hj
          injection h with h; injection h with g1 h; injection h with g2 h; injection h with g3 g4
          exact ⟨_, _, _, _, n, f, fs, rfl, h1, h2, hfs, he, hj, g1.symm, g2, g3, g4.symm⟩
      · cases h
    · cases h
  · cases h
theorem vm_alen_i {pc pc' : Nat} {ls ls' : vm_L} {st st' : List Value} {w w' : vm_W} (h : vm_alen pc ls st w = some (pc', ls', st', w')) : ∃ i n st0, st = .ref i :: st0 ∧ ((∃ f, w.2.2 i = .inl (n, f) ∧ (i < w.1 ∨ i = vm_scr)) ∨ (∃ g, w.2.2 i = .inr (.inl (n, g)) ∧ i < w.1)) ∧ pc' = pc + 1 ∧ ls = ls' ∧ st' = .int (Int32.ofNat n) :: st0 ∧ w = w' := by
  unfold vm_alen at h
  split at h
  · split at h
    · rename_i hi
      split at h
      · rename_i n f he
        injection h with h; injection h with h1 h; injection h with h2 h; injection h with h3 h4
        exact ⟨_, n, _, rfl, Or.inl ⟨f, he, hi⟩, h1.symm, h2, h3.symm, h4⟩
      · rename_i n g he
        split at h
        · rename_i hi2
          injection h with h; injection h with h1 h; injection h with h2 h; injection h with h3 h4
          exact ⟨_, n, _, rfl, Or.inr ⟨g, he, hi2⟩, h1.symm, h2, h3.symm, h4⟩
        · cases h
      · cases h
    · cases h
  · cases h
theorem vm_newi_i {pc pc' : Nat} {ls ls' : vm_L} {st st' : List Value} {w w' : vm_W} (h : vm_newi pc ls st w = some (pc', ls', st', w')) : ∃ n st0, st = .int n :: st0 ∧ ¬ n < 0 ∧ n.toNatClampNeg ≤ 1000 ∧ w.1 < 1000 ∧ pc' = pc + 2 ∧ ls = ls' ∧ st' = .ref w.1 :: st0 ∧ w' = (w.1 + 1, w.2.1 + n.toNatClampNeg, vm_up w.2.2 w.1 (.inl (n.toNatClampNeg, fun _ => 0))) := by
  unfold vm_newi at h
  split at h
  · split at h
    · rename_i hi
      injection h with h; injection h with h1 h; injection h with h2 h; injection h with h3 h4
      exact ⟨_, _, rfl, hi.1, hi.2.1, hi.2.2, h1.symm, h2, h3.symm, h4.symm⟩
    · cases h
  · cases h
theorem vm_newq_i {pc pc' : Nat} {ls ls' : vm_L} {st st' : List Value} {w w' : vm_W} (h : vm_newq pc ls st w = some (pc', ls', st', w')) : ∃ n st0, st = .int n :: st0 ∧ ¬ n < 0 ∧ n.toNatClampNeg ≤ 1000 ∧ w.1 < 1000 ∧ pc' = pc + 3 ∧ ls = ls' ∧ st' = .ref w.1 :: st0 ∧ w' = (w.1 + 1, w.2.1 + n.toNatClampNeg, vm_up w.2.2 w.1 (.inr (.inl (n.toNatClampNeg, fun _ => none)))) := by
  unfold vm_newq at h
  split at h
  · split at h
    · rename_i hi
      injection h with h; injection h with h1 h; injection h with h2 h; injection h with h3 h4
      exact ⟨_, _, rfl, hi.1, hi.2.1, hi.2.2, h1.symm, h2, h3.symm, h4.symm⟩
    · cases h
  · cases h
theorem vm_new_i {a pc pc' : Nat} {ls ls' : vm_L} {st st' : List Value} {w w' : vm_W} (h : vm_new a pc ls st w = some (pc', ls', st', w')) : ∃ C T N, vwCl[a]? = some (C, T, N) ∧ w.1 < 1000 ∧ pc' = pc + 3 ∧ ls = ls' ∧ st' = .ref w.1 :: st ∧ w' = (w.1 + 1, w.2.1 + N, vm_up w.2.2 w.1 (.inr (.inr (a, (List.range N).map (fun j => defaultValue (vm_ty a j)))))) := by
  unfold vm_new at h
  split at h
  · rename_i C T N hc
    split at h
    · rename_i hi
      injection h with h; injection h with h1 h; injection h with h2 h; injection h with h3 h4
      exact ⟨C, T, N, hc, hi, h1.symm, h2, h3.symm, h4.symm⟩
    · cases h
  · cases h
theorem vm_dup_i {pc pc' : Nat} {ls ls' : vm_L} {st st' : List Value} {w w' : vm_W} (h : vm_dup pc ls st w = some (pc', ls', st', w')) : ∃ va st0, st = va :: st0 ∧ va.category = 1 ∧ pc' = pc + 1 ∧ ls = ls' ∧ st' = va :: va :: st0 ∧ w = w' := by
  unfold vm_dup at h
  split at h
  · split at h
    · rename_i hi
      injection h with h; injection h with h1 h; injection h with h2 h; injection h with h3 h4
      exact ⟨_, _, rfl, hi, h1.symm, h2, h3.symm, h4⟩
    · cases h
  · cases h
theorem vm_pop_i {pc pc' : Nat} {ls ls' : vm_L} {st st' : List Value} {w w' : vm_W} (h : vm_pop pc ls st w = some (pc', ls', st', w')) : ∃ va st0, st = va :: st0 ∧ va.category = 1 ∧ pc' = pc + 1 ∧ ls = ls' ∧ st0 = st' ∧ w = w' := by
  unfold vm_pop at h
  split at h
  · split at h
    · rename_i hi
      injection h with h; injection h with h1 h; injection h with h2 h; injection h with h3 h4
      exact ⟨_, _, rfl, hi, h1.symm, h2, h3, h4⟩
    · cases h
  · cases h
theorem vm_dup2_i {pc pc' : Nat} {ls ls' : vm_L} {st st' : List Value} {w w' : vm_W} (h : vm_dup2 pc ls st w = some (pc', ls', st', w')) : ∃ va vb st0, st = va :: vb :: st0 ∧ va.category = 1 ∧ vb.category = 1 ∧ pc' = pc + 1 ∧ ls = ls' ∧ st' = va :: vb :: va :: vb :: st0 ∧ w = w' := by
  unfold vm_dup2 at h
  split at h
  · split at h
    · rename_i hi
      injection h with h; injection h with h1 h; injection h with h2 h; injection h with h3 h4
      exact ⟨_, _, _, rfl, hi.1, hi.2, h1.symm, h2, h3.symm, h4⟩
    · cases h
  · cases h
theorem vm_i2l_i {pc pc' : Nat} {ls ls' : vm_L} {st st' : List Value} {w w' : vm_W} (h : vm_i2l pc ls st w = some (pc', ls', st', w')) : ∃ x st0, st = .int x :: st0 ∧ pc' = pc + 1 ∧ ls = ls' ∧ st' = .long x.toInt64 :: st0 ∧ w = w' := by
  unfold vm_i2l at h
  split at h
  · injection h with h; injection h with h1 h; injection h with h2 h; injection h with h3 h4
    exact ⟨_, _, rfl, h1.symm, h2, h3.symm, h4⟩
  · cases h
theorem vm_l2i_i {pc pc' : Nat} {ls ls' : vm_L} {st st' : List Value} {w w' : vm_W} (h : vm_l2i pc ls st w = some (pc', ls', st', w')) : ∃ x st0, st = .long x :: st0 ∧ pc' = pc + 1 ∧ ls = ls' ∧ st' = .int x.toInt32 :: st0 ∧ w = w' := by
  unfold vm_l2i at h
  split at h
  · injection h with h; injection h with h1 h; injection h with h2 h; injection h with h3 h4
    exact ⟨_, _, rfl, h1.symm, h2, h3.symm, h4⟩
  · cases h
theorem vm_oin_i {d pc pc' : Nat} {ls ls' : vm_L} {st st' : List Value} {w w' : vm_W} (h : vm_oin d pc ls st w = some (pc', ls', st', w')) : ∃ i st0, st = .ref i :: st0 ∧ 1 ≤ d ∧ (st0.map fun v => v.category).sum ≤ 8 ∧ pc' = pc + 3 ∧ ls = ls' ∧ st0 = st' ∧ w = w' := by
  unfold vm_oin at h
  split at h
  · split at h
    · rename_i hi
      injection h with h; injection h with h1 h; injection h with h2 h; injection h with h3 h4
      exact ⟨_, _, rfl, hi.1, hi.2, h1.symm, h2, h3, h4⟩
    · cases h
  · cases h
theorem vm_sln_i {d pc pc' : Nat} {ls ls' : vm_L} {st st' : List Value} {w w' : vm_W} (h : vm_sln d pc ls st w = some (pc', ls', st', w')) : ∃ st0, st = .ref vm_str :: st0 ∧ 10 ≤ d ∧ (st0.map fun v => v.category).sum ≤ 8 ∧ pc' = pc + 3 ∧ ls = ls' ∧ st' = .int (Int32.ofNat vm_txt.length) :: st0 ∧ w = w' := by
  unfold vm_sln at h
  split at h
  · split at h
    · rename_i hi
      obtain ⟨rfl, hi1, hi2⟩ := hi
      injection h with h; injection h with h1 h; injection h with h2 h; injection h with h3 h4
      exact ⟨_, rfl, hi1, hi2, h1.symm, h2, h3.symm, h4⟩
    · cases h
  · cases h
theorem vm_sch_i {d pc pc' : Nat} {ls ls' : vm_L} {st st' : List Value} {w w' : vm_W} (h : vm_sch d pc ls st w = some (pc', ls', st', w')) : ∃ j z st0, st = .int j :: .ref vm_str :: st0 ∧ 10 ≤ d ∧ (st0.map fun v => v.category).sum ≤ 8 ∧ ¬ j < 0 ∧ vm_txt[j.toNatClampNeg]? = some z ∧ pc' = pc + 3 ∧ ls = ls' ∧ st' = .int z :: st0 ∧ w = w' := by
  unfold vm_sch at h
  split at h
  · split at h
    · rename_i hi
      obtain ⟨rfl, hi1, hi2, hi3⟩ := hi
      split at h
      · rename_i z hz
        injection h with h; injection h with h1 h; injection h with h2 h; injection h with h3 h4
        exact ⟨_, z, _, rfl, hi1, hi2, hi3, hz, h1.symm, h2, h3.symm, h4⟩
      · cases h
    · cases h
  · cases h
theorem vm_lc_i {x : Option Value} {pc pc' : Nat} {ls ls' : vm_L} {st st' : List Value} {w w' : vm_W} (h : vm_lc x pc ls st w = some (pc', ls', st', w')) : ∃ v, x = some v ∧ pc' = pc ∧ ls = ls' ∧ st' = v :: st ∧ w = w' := by
  unfold vm_lc at h
  split at h
  · injection h with h; injection h with h1 h; injection h with h2 h; injection h with h3 h4
    exact ⟨_, rfl, h1.symm, h2, h3.symm, h4⟩
  · cases h
theorem vm_tab_i {pc pc' : Nat} {dd lo hi : Int} {os : Array Int} {ls ls' : vm_L} {st st' : List Value} {w w' : vm_W} (h : vm_tab pc dd lo hi os ls st w = some (pc', ls', st', w')) : ∃ x st0, st = .int x :: st0 ∧ (((x.toInt < lo ∨ hi < x.toInt) ∧ (pc : Int) + dd = (pc' : Int)) ∨ (¬ (x.toInt < lo ∨ hi < x.toInt) ∧ ∃ off, os[(x.toInt - lo).toNat]? = some off ∧ (pc : Int) + off = (pc' : Int))) ∧ ls = ls' ∧ st0 = st' ∧ w = w' := by
  unfold vm_tab at h
  split at h
  · split at h
    · rename_i hx
      obtain ⟨h1, h2, h3, h4⟩ := vm_jmp_i h
      exact ⟨_, _, rfl, Or.inl ⟨hx, h1⟩, h2, h3, h4⟩
    · rename_i hx
      split at h
      · rename_i off ho
        obtain ⟨h1, h2, h3, h4⟩ := vm_jmp_i h
        exact ⟨_, _, rfl, Or.inr ⟨hx, off, ho, h1⟩, h2, h3, h4⟩
      · cases h
  · cases h
theorem vm_lku_i {pc pc' : Nat} {dd : Int} {ps : Array (Int × Int)} {ls ls' : vm_L} {st st' : List Value} {w w' : vm_W} (h : vm_lku pc dd ps ls st w = some (pc', ls', st', w')) : ∃ x st0, st = .int x :: st0 ∧ (ps.toList.zip (ps.toList.drop 1)).all (fun (a, next) => a.1 < next.1) = true ∧ (pc : Int) + Op.lookupswitch.offset ps.toList dd x.toInt = (pc' : Int) ∧ ls = ls' ∧ st0 = st' ∧ w = w' := by
  unfold vm_lku at h
  split at h
  · split at h
    · rename_i hx
      obtain ⟨h1, h2, h3, h4⟩ := vm_jmp_i h
      exact ⟨_, _, rfl, hx, h1, h2, h3, h4⟩
    · cases h
  · cases h
end
section
/-! one instruction of the pure machine is one of the real one: the theorem -/
theorem vm_arrI : Cond.arrayClass .int ∈ vm_G := vm_r3 _ (List.mem_of_getElem? (i := 11) rfl)
theorem vm_va_at {D : va_G} {κ : Nat → ClassId} {base b adS L : Nat} {xs : Nat → Int32} {w : vm_W} {H : Heap} {i : Nat} {x : vm_E} (h : vm_H D κ base b adS L xs w H) (hi : i < w.1) (hx : w.2.2 i = x) : va_P D vwCl [(base + i, vm_c (vm_r base b adS) κ x)] H := by
  intro k q hk
  match k, hk with
  | 0, hk =>
    injection hk with hk
    subst hk
    rw [← hx]
    exact h.2.2.2 i hi
  | k + 1, hk => cases hk
theorem vm_fit_i {ty : FieldType} {v : Value} {ρ : Nat → Nat} (h : vm_fit ty v = true) : narrow ty (vm_v ρ v) = vm_v ρ v ∧ fits ty (vm_v ρ v) = true := by
  unfold vm_fit at h
  split at h
  · exact ⟨rfl, rfl⟩
  · exact ⟨rfl, rfl⟩
  · exact ⟨rfl, rfl⟩
  · cases h
theorem vm_get_map {fs : List Value} {k : Nat} {v : Value} (ρ : Nat → Nat) (h : fs[k]? = some v) : (fs.map (vm_v ρ))[k]? = some (vm_v ρ v) := by rw [List.getElem?_map, h]; rfl
theorem vm_dv (ρ : Nat → Nat) (ty : FieldType) : vm_v ρ (defaultValue ty) = defaultValue ty := by cases ty <;> rfl
section VMS
variable {p : Program} {l : Launch} {e : Env} {R : Room} {s : State} {m : MethodId} {args : Array Value} {below : List Frame} {meth : Method} {c : Code} {H : Heap} {locs : List Loc} {Q : State → Prop}
variable {D : va_G} {κ : Nat → ClassId} {base b adS adV L : Nat} {xs : Nat → Int32} {r : vm_M} {lsr : Array Slot} {ls ls' : vm_L} {st st' : List Value} {w w' : vm_W} {pc' n0 k0 d : Nat}
set_option maxHeartbeats 4000000 in
theorem vm_cmp0_W {cc : ByteArray} {pc tgt : Nat} {off : Int} {cd : Jvm.ClassFile.Cond} {x : Int32} {ls : Array Slot} {rest : List Value} {cells slots : Nat} (hx : p.tables.exec = Jvm.exec) (hb : c.code = cc) (hdg : decode cc pc = .ok (.ifCond cd off, 3)) (ht : (pc : Int) + off = (tgt : Int))
    (k : (vm_cmp cd x 0 = true → W p l e R s m args below meth c H locs cells slots Q (F0 m tgt ls rest)) ∧ (¬ vm_cmp cd x 0 = true → W p l e R s m args below meth c H locs cells slots Q (F0 m (pc + 3) ls rest))) : W p l e R s m args below meth c H locs cells slots Q (F0 m pc ls (.int x :: rest)) := by
  cases cd with
  | eq => exact lv_if_eq hx hb hdg ht (fun h => k.1 (decide_eq_true h)) (fun h => k.2 (fun z => h (of_decide_eq_true z)))
  | ne => exact lv_if_ne hx hb hdg ht (fun h => k.1 (decide_eq_true h)) (fun h => k.2 (fun z => of_decide_eq_true z h))
  | lt => exact lv_if_lt hx hb hdg ht (fun h => k.1 (decide_eq_true h)) (fun h => k.2 (fun z => h (of_decide_eq_true z)))
  | ge => exact lv_if_ge hx hb hdg ht (fun h => k.1 (decide_eq_true h)) (fun h => k.2 (fun z => h (of_decide_eq_true z)))
  | gt => exact lv_if_gt hx hb hdg ht (fun h => k.1 (decide_eq_true h)) (fun h => k.2 (fun z => h (of_decide_eq_true z)))
  | le => exact lv_if_le hx hb hdg ht (fun h => k.1 (decide_eq_true h)) (fun h => k.2 (fun z => h (of_decide_eq_true z)))
theorem vm_cmp2_W {cc : ByteArray} {pc tgt : Nat} {off : Int} {cd : Jvm.ClassFile.Cond} {x y : Int32} {ls : Array Slot} {rest : List Value} {cells slots : Nat} (hx : p.tables.exec = Jvm.exec) (hb : c.code = cc) (hdg : decode cc pc = .ok (.if_icmp cd off, 3)) (ht : (pc : Int) + off = (tgt : Int))
    (k : (vm_cmp cd x y = true → W p l e R s m args below meth c H locs cells slots Q (F0 m tgt ls rest)) ∧ (¬ vm_cmp cd x y = true → W p l e R s m args below meth c H locs cells slots Q (F0 m (pc + 3) ls rest))) : W p l e R s m args below meth c H locs cells slots Q (F0 m pc ls (.int y :: .int x :: rest)) := by
  cases cd with
  | eq => exact lv_icmp_eq hx hb hdg ht (fun h => k.1 (decide_eq_true h)) (fun h => k.2 (fun z => h (of_decide_eq_true z)))
  | ne => exact lv_icmp_ne hx hb hdg ht (fun h => k.1 (decide_eq_true h)) (fun h => k.2 (fun z => of_decide_eq_true z h))
  | lt => exact lv_icmp_lt hx hb hdg ht (fun h => k.1 (decide_eq_true h)) (fun h => k.2 (fun z => h (of_decide_eq_true z)))
  | ge => exact lv_icmp_ge hx hb hdg ht (fun h => k.1 (decide_eq_true h)) (fun h => k.2 (fun z => h (of_decide_eq_true z)))
  | gt => exact lv_icmp_gt hx hb hdg ht (fun h => k.1 (decide_eq_true h)) (fun h => k.2 (fun z => h (of_decide_eq_true z)))
  | le => exact lv_icmp_le hx hb hdg ht (fun h => k.1 (decide_eq_true h)) (fun h => k.2 (fun z => h (of_decide_eq_true z)))
/-- putfield -/
theorem vm_put_W {x i a bb o : Nat} {fs : List Value} {v : Value} {pc : Nat} {st0 : List Value} {cells slots : Nat} (C : vm_C D κ base b adS adV L xs p s m args meth c r) (ho : vm_nm[o]? = some r.1) (hcl : r.2.1.cls = r.1) (hf : vm_ff o x a bb)
    (hi : i < w.1) (he : w.2.2 i = .inr (.inr (a, fs))) (hl : bb < fs.length) (hfit : vm_fit (vm_ty a bb) v = true) (hfin : vm_fin r a bb = true) (hdg : decode r.2.2.1 pc = .ok (.putfield x, 3))
    (hT : vm_T D κ base b adS L xs s.heap w H locs)
    (kk : ∀ H' locs', vm_T D κ base b adS L xs s.heap (w.1, w.2.1, vm_up w.2.2 i (.inr (.inr (a, fs.set bb v)))) H' locs' → W p l e R s m args below meth c H' locs' cells slots Q (F0 m (pc + 3) lsr st0)) :
    W p l e R s m args below meth c H locs cells slots Q (F0 m pc lsr (vm_v (vm_r base b adS) v :: .ref (base + i) :: st0)) := by
  obtain ⟨hx, hb, hml, hown, hts, hK, hAO, hN, hnm, hret, hlk, hX, hbb, hSI⟩ := C
  obtain ⟨own, Cn, T, N, g1, g2, g3, g4⟩ := hf
  cases ho.symm.trans g1
  have ha : a < 11 := by
    have := (List.getElem?_eq_some_iff.mp g2).1
    exact this
  obtain ⟨C', T', N', z1, hin, hty, hnms⟩ := vm_clsA a ha
  cases g2.symm.trans z1
  obtain ⟨t1, t2, t3, t4⟩ := hT
  have hat := t1.2.2.2 i hi
  rw [he] at hat
  obtain ⟨r0, h1, cell, q1, q2, q3, q4⟩ := hat
  cases g2.symm.trans h1
  obtain ⟨hS, hfc, kC, hkC, hkind⟩ := hK.1 a _ g2
  obtain ⟨cf, kf, fi, f, hfi, hsl⟩ := hS bb g3
  have hlay := hts _ (hin _ (u_in_lay g3))
  have hap := va_apart (own := r.1) hts hin (vm_ty a) hty hnms hK g2
  have hst := (u_facts hfc hkC (u_lays hts hin g3) hfi).1
  obtain ⟨hn1, hn2⟩ := vm_fit_i (ρ := vm_r base b adS) hfit
  have hl' : bb < (fs.map (vm_v (vm_r base b adS))).length := by rw [List.length_map]; exact hl
  have fin : ∀ H' : Heap, H'[base + i]? = some (cell.setSlot f.slot (vm_v (vm_r base b adS) v)) → H'.size = H.size → (∀ q : Nat, q ≠ base + i → H'[q]? = H[q]?) → vm_T D κ base b adS L xs s.heap (w.1, w.2.1, vm_up w.2.2 i (.inr (.inr (a, fs.set bb v)))) H' (locs ++ [⟨base + i, f.slot⟩]) := by
    intro H' e1 e2 e3
    rw [hsl] at e1
    refine ⟨vm_H_up t1 hi e2 e3 ⟨_, g2, ?_⟩, ⟨t2.1, by rw [e2]; exact t2.2⟩, fun q hq => (e3 q (by omega)).trans (t3 q hq), fun q hq => ?_⟩
    · show t_OB (base + i) (D.1 a) N (D.2 a) H' (vp_V ((fs.set bb v).map (vm_v (vm_r base b adS))))
      rw [List.map_set]
      exact t_OB.to (V := updV (vp_V (fs.map (vm_v (vm_r base b adS)))) bb (vm_v (vm_r base b adS) v)) ⟨_, e1, q2, q3, t_set q4 hap g3 _⟩ (fun j _ => vp_updV_set hl' _ j)
    · rcases List.mem_append.mp hq with h | h
      · exact t4 q h
      · rw [List.mem_singleton.mp h]; exact Nat.le_add_right _ _
  unfold vm_fin at hfin
  rw [g2] at hfin
  by_cases hfb : (T bb).2.2.2 = true
  · have hfin : ((T bb).2.2.2 == false || ((r.2.1.name == "<init>") && ((T bb).1 == r.1))) = true := hfin
    rw [hfb] at hfin
    have hfin : ((r.2.1.name == "<init>") && ((T bb).1 == r.1)) = true := hfin
    rw [Bool.and_eq_true, beq_iff_eq, beq_iff_eq] at hfin
    unfold u_lay at hlay
    rw [if_pos hfb] at hlay
    have hcf : m.cls = cf := by
      obtain ⟨_, _, c', _, _, _, -, -, hf', -, -, -, hown2, -⟩ := Cond.laysFinal_spec hlay
      have e1 : c' = cf := by have := hfi.symm.trans hf'; simp at this; exact this.1.symm
      rw [hfin.2] at hown2
      rw [← e1]; exact Option.some.inj (hown.symm.trans hown2)
    have h6 := u_fits hfc hkC hkind (Or.inr hlay) hfi (hty bb g3) hn1 hn2
    exact W.putFinK hx hb hown (hts _ g4) hfi hst hcf (hnm hfin.1) (by rw [q2]; exact h6) q1 q3 (by rw [hsl]; exact k2_hasslot (q4 bb g3)) rfl rfl hdg fun H' e1 e2 e3 => kk H' _ (fin H' e1 e2 e3)
  · have hfb : (T bb).2.2.2 = false := by simpa using hfb
    unfold u_lay at hlay
    rw [if_neg (by rw [hfb]; decide)] at hlay
    have h6 := u_store hfc hkC hkind hlay hfi (hty bb g3) hn1 hn2
    exact W.putK hx hb (f := f) ⟨hown, hts _ g4, ⟨_, _, _, hfi⟩, hst⟩ (by rw [q2]; exact h6) q1 q3 (by rw [hsl]; exact k2_hasslot (q4 bb g3)) rfl rfl hdg fun H' e1 e2 e3 => kk H' _ (fin H' e1 e2 e3)
/-- iastore -/
theorem vm_ast_W {i n pc : Nat} {j x : Int32} {f : Nat → Int32} {st0 : List Value} {cells slots : Nat} (C : vm_C D κ base b adS adV L xs p s m args meth c r) (hi : i < w.1) (he : w.2.2 i = .inl (n, f)) (hin : vp_in j n) (hdg : decode r.2.2.1 pc = .ok (.iastore, 1))
    (hT : vm_T D κ base b adS L xs s.heap w H locs)
    (kk : ∀ H' locs', vm_T D κ base b adS L xs s.heap (w.1, w.2.1, vm_up w.2.2 i (.inl (n, upd f j.toNatClampNeg x))) H' locs' → W p l e R s m args below meth c H' locs' cells slots Q (F0 m (pc + 1) lsr st0)) :
    W p l e R s m args below meth c H locs cells slots Q (F0 m pc lsr (.int x :: .int j :: .ref (base + i) :: st0)) := by
  obtain ⟨hx, hb, hml, hown, hts, hK, hAO, hN, hnm, hret, hlk, hX, hbb, hSI⟩ := C
  obtain ⟨t1, t2, t3, t4⟩ := hT
  have hat := t1.2.2.2 i hi
  rw [he] at hat
  refine W.iast hx hb hat ((hK.2 0 _ rfl).1 n (fun j => .int (f j))) (fun q => by cases q) (by show ¬ (j < 0 ∨ (arrV _ _ _).slots.size ≤ _); rw [arrV_size]; exact hin) rfl rfl hdg fun H1 e1 z oq => ?_
  refine kk H1 _ ⟨vm_H_up t1 hi z oq ?_, ⟨t2.1, by rw [z]; exact t2.2⟩, fun q hq => (oq q (by show q ≠ base + i; omega)).trans (t3 q hq), fun q hq => ?_⟩
  · show H1[base + i]? = some (vp_cell _ _)
    rw [e1]
    show some ((vp_cell (κ 0) (n, .inl f)).setSlot j.toNatClampNeg (.int x)) = some (vp_cell (κ 0) (n, .inl (upd f j.toNatClampNeg x)))
    rw [vp_cell_i, vp_cell_i, arrV_store]
    congr 2
    funext q
    unfold updV upd
    split <;> rfl
  · rcases List.mem_append.mp hq with h | h
    · exact t4 q h
    · rw [List.mem_singleton.mp h]; exact Nat.le_add_right _ _
/-- aastore -/
theorem vm_qst_W {i n v pc : Nat} {j : Int32} {g : Nat → Option Nat} {fs st0 : List Value} {cells slots : Nat} (C : vm_C D κ base b adS adV L xs p s m args meth c r) (hi : i < w.1) (hv : v < w.1) (hev : w.2.2 v = .inr (.inr (0, fs))) (he : w.2.2 i = .inr (.inl (n, g))) (hin : vp_in j n) (hdg : decode r.2.2.1 pc = .ok (.aastore, 1))
    (hT : vm_T D κ base b adS L xs s.heap w H locs)
    (kk : ∀ H' locs', vm_T D κ base b adS L xs s.heap (w.1, w.2.1, vm_up w.2.2 i (.inr (.inl (n, va_up g j.toNatClampNeg (some v))))) H' locs' → W p l e R s m args below meth c H' locs' cells slots Q (F0 m (pc + 1) lsr st0)) :
    W p l e R s m args below meth c H locs cells slots Q (F0 m pc lsr (.ref (base + v) :: .int j :: .ref (base + i) :: st0)) := by
  obtain ⟨hx, hb, hml, hown, hts, hK, hAO, hN, hnm, hret, hlk, hX, hbb, hSI⟩ := C
  obtain ⟨t1, t2, t3, t4⟩ := hT
  have hw : w.1 ≤ 1000 := t1.2.1
  have hat := t1.2.2.2 i hi
  rw [he] at hat
  have hav := t1.2.2.2 v hv
  rw [hev] at hav
  obtain ⟨r', hr', cellV, g1, g2, g3, -⟩ := hav
  have hcls := (hK.1 0 _ rfl).2
  obtain ⟨kA, comp, k1, k2, k3, -⟩ := (hK.2 1 _ rfl).2
  have hcomp : comp = D.1 0 := Option.some.inj (k3.symm.trans hcls.1)
  subst hcomp
  obtain ⟨kC, hkC, -⟩ := hcls.2
  have hlt : j.toNatClampNeg < n := Nat.not_le.mp fun q => hin (Or.inr q)
  have h0 : ¬ j < 0 := fun q => hin (Or.inl q)
  refine W.aast hx hb hat (fun q h => by cases h) (fun h => by cases h) k1 k2 rfl hkC ⟨h0, by show _ < (arrV _ _ _).slots.size; rw [arrV_size]; exact hlt⟩ g1 (fun q h => by rw [g3] at h; cases h) (by rw [g2]; exact hkC) (by rw [g2]; exact va_assign hcls) rfl rfl hdg fun H1 e1 z oq => ?_
  refine kk H1 _ ⟨vm_H_up t1 hi z oq ?_, ⟨t2.1, by rw [z]; exact t2.2⟩, fun q hq => (oq q (by show q ≠ base + i; omega)).trans (t3 q hq), fun q hq => ?_⟩
  · show H1[base + i]? = some (vp_cell _ _)
    rw [e1]
    show some ((vp_cell (κ 1) (n, .inr (.inr (.inr (.inr (fun j => (g j).map (vm_r base b adS))))))).setSlot j.toNatClampNeg (.ref (base + v))) = some (vp_cell (κ 1) (n, .inr (.inr (.inr (.inr (fun q => ((va_up g j.toNatClampNeg (some v)) q).map (vm_r base b adS)))))))
    rw [vp_cell_q, vp_cell_q, arrV_store]
    congr 2
    funext q
    unfold updV va_up
    split
    · show Value.ref (base + v) = va_rf (some (vm_r base b adS v))
      rw [vm_r_lt (by omega)]; rfl
    · rfl
  · rcases List.mem_append.mp hq with h | h
    · exact t4 q h
    · rw [List.mem_singleton.mp h]; exact Nat.le_add_right _ _
/-- newarray -/
theorem vm_newi_W {pc : Nat} {n : Int32} {st0 : List Value} (C : vm_C D κ base b adS adV L xs p s m args meth c r) (hn : ¬ n < 0) (hN : n.toNatClampNeg ≤ 1000) (hw : w.1 < 1000) (hdg : decode r.2.2.1 pc = .ok (.newarray .int, 2)) {cells slots : Nat} (hc1 : cells + 1 ≤ R.cells) (hc2 : slots + n.toNatClampNeg ≤ R.slots)
    (hT : vm_T D κ base b adS L xs s.heap w H locs)
    (kk : ∀ H' locs', vm_T D κ base b adS L xs s.heap (w.1 + 1, w.2.1 + n.toNatClampNeg, vm_up w.2.2 w.1 (.inl (n.toNatClampNeg, fun _ => 0))) H' locs' → W p l e R s m args below meth c H' locs' (cells + 1) (slots + n.toNatClampNeg) Q (F0 m (pc + 2) lsr (.ref (base + w.1) :: st0))) :
    W p l e R s m args below meth c H locs cells slots Q (F0 m pc lsr (.int n :: st0)) := by
  obtain ⟨hx, hb, hml, hown, hts, hK, hAO, hNe, hnm, hret, hlk, hX, hbb, hSI⟩ := C
  obtain ⟨t1, t2, t3, t4⟩ := hT
  have harr : (Cond.arrayClass (newarray.typeOf .int)).before args s = true := hts _ vm_arrI
  refine va_newaK hx hb harr rfl hdg rfl hn rfl (by show n.toNatClampNeg * 4 ≤ _; omega) hc1 hc2 t1.1 fun H1 cA e1 z1 o1 hAr hNm => ?_
  have hcA : cA = κ 0 := Option.some.inj (hNm.symm.trans (hK.2 0 _ rfl).2)
  subst hcA
  refine kk H1 locs ⟨vm_H_push t1 hw (z1.trans (by rw [t1.1])) (fun q hq => o1 q (by rw [← t1.1]; exact hq)) ?_, ⟨t2.1, by have := t1.1; omega⟩, fun q hq => (o1 q (by omega)).trans (t3 q hq), t4⟩
  show H1[base + w.1]? = some (vp_cell _ _)
  rw [e1]; rfl
/-- anewarray -/
theorem vm_newq_W {pc x o : Nat} {n : Int32} {st0 : List Value} (C : vm_C D κ base b adS adV L xs p s m args meth c r) (ho : vm_nm[o]? = some r.1) (hf : vm_nf o x 0) (hn : ¬ n < 0) (hN : n.toNatClampNeg ≤ 1000) (hw : w.1 < 1000) (hdg : decode r.2.2.1 pc = .ok (.anewarray x, 3)) {cells slots : Nat} (hc1 : cells + 1 ≤ R.cells) (hc2 : slots + n.toNatClampNeg ≤ R.slots)
    (hT : vm_T D κ base b adS L xs s.heap w H locs)
    (kk : ∀ H' locs', vm_T D κ base b adS L xs s.heap (w.1 + 1, w.2.1 + n.toNatClampNeg, vm_up w.2.2 w.1 (.inr (.inl (n.toNatClampNeg, fun _ => none)))) H' locs' → W p l e R s m args below meth c H' locs' (cells + 1) (slots + n.toNatClampNeg) Q (F0 m (pc + 3) lsr (.ref (base + w.1) :: st0))) :
    W p l e R s m args below meth c H locs cells slots Q (F0 m pc lsr (.int n :: st0)) := by
  obtain ⟨hx, hb, hml, hown, hts, hK, hAO, hNe, hnm, hret, hlk, hX, hbb, hSI⟩ := C
  obtain ⟨t1, t2, t3, t4⟩ := hT
  obtain ⟨own, Cn, T, N, g1, g2, g3, g4, g5⟩ := hf
  cases ho.symm.trans g1
  cases (show some (RX0, TX0, 3) = some (Cn, T, N) from g2)
  refine W.anew hx hb hown (hts _ g3) (va_AO.use hAO) rfl hdg rfl hn (by omega) hc1 hc2 fun cA kA comp f1 f2 f3 f4 => ?_
  obtain ⟨kA', comp', k1, k2, k3, k4⟩ := (hK.2 1 _ rfl).2
  have hcA : cA = κ 1 := Option.some.inj (f1.symm.trans k4)
  subst hcA
  generalize hH1 : H.push ({ cls := κ 1, slots := Array.replicate n.toNatClampNeg .null, vm := .none } : Cell) = H1
  have z1 : H1.size = H.size + 1 := by rw [← hH1, Array.size_push]
  have e1 : H1[H.size]? = some (arrV (κ 1) n.toNatClampNeg (fun _ => .null)) := by rw [← hH1, Array.getElem?_push_size, ← arrV_new]
  have o1 : ∀ q : Nat, q < H.size → H1[q]? = H[q]? := fun q hq => by rw [← hH1, Array.getElem?_push, if_neg (Nat.ne_of_lt hq)]
  have hs := t1.1
  have K := kk H1 locs ⟨vm_H_push t1 hw z1 o1 (by show H1[base + w.1]? = some (vp_cell _ _); rw [← t1.1, e1]; rfl), ⟨t2.1, by omega⟩, fun q hq => (o1 q (by omega)).trans (t3 q hq), t4⟩
  rw [← hs] at K
  exact K
/-- new -/
theorem vm_new_W {pc x o a N : Nat} {Cn : String} {T : u_T} {st0 : List Value} (C : vm_C D κ base b adS adV L xs p s m args meth c r) (ho : vm_nm[o]? = some r.1) (hf : vm_nf o x a) (hcl : vwCl[a]? = some (Cn, T, N)) (hw : w.1 < 1000) (hdg : decode r.2.2.1 pc = .ok (.new x, 3)) {cells slots : Nat} (hc1 : cells + 1 ≤ R.cells) (hc2 : slots + N ≤ R.slots)
    (hT : vm_T D κ base b adS L xs s.heap w H locs)
    (kk : ∀ H' locs', vm_T D κ base b adS L xs s.heap (w.1 + 1, w.2.1 + N, vm_up w.2.2 w.1 (.inr (.inr (a, (List.range N).map (fun j => defaultValue (vm_ty a j)))))) H' locs' → W p l e R s m args below meth c H' locs' (cells + 1) (slots + N) Q (F0 m (pc + 3) lsr (.ref (base + w.1) :: st0))) :
    W p l e R s m args below meth c H locs cells slots Q (F0 m pc lsr st0) := by
  obtain ⟨hx, hb, hml, hown, hts, hK, hAO, hNe, hnm, hret, hlk, hX, hbb, hSI⟩ := C
  obtain ⟨t1, t2, t3, t4⟩ := hT
  obtain ⟨own, Cn', T', N', g1, g2, g3, g4, g5⟩ := hf
  cases ho.symm.trans g1
  cases hcl.symm.trans g2
  have ha : a < 11 := (List.getElem?_eq_some_iff.mp g2).1
  obtain ⟨C', T', N', z1, hin, hty, hnms⟩ := vm_clsA a ha
  cases g2.symm.trans z1
  have hKn := hK.1 a _ g2
  refine W.newcK hx hb hown (hts _ g3) (hts _ g4) (hts _ g5) rfl hdg hc1 hc2 hKn.2.1 t1.1 fun H1 kC hkC e1 z1 o1 => ?_
  refine kk H1 locs ⟨vm_H_push t1 hw (z1.trans (by rw [t1.1])) (fun q hq => o1 q (by rw [← t1.1]; exact hq)) ⟨_, g2, ?_⟩, ⟨t2.1, by have := t1.1; omega⟩, fun q hq => (o1 q (by omega)).trans (t3 q hq), t4⟩
  refine (u_born (vm_ty a) hts hin hKn hkC e1 hty).to fun j hj => ?_
  show defaultValue (vm_ty a j) = vp_V (((List.range N).map (fun j => defaultValue (vm_ty a j))).map (vm_v (vm_r base b adS))) j
  unfold vp_V
  rw [List.getD_eq_getElem?_getD, List.getElem?_map, List.getElem?_map, List.getElem?_range hj]
  exact (vm_dv _ _).symm
end VMS
end
section
/-! every instruction that neither calls nor returns -/
theorem vm_oi1 : Cond.instanceMethod objectInit ∈ vm_G := vm_r1 _ (List.mem_of_getElem? (i := 10) rfl)
theorem vm_oi2 : Cond.code objectInit ⟨#[0xb1]⟩ 1 none ∈ vm_G := vm_r1 _ (List.mem_of_getElem? (i := 11) rfl)
theorem vm_sl1 : Cond.code yJ0_length_8abf5 cJ0_length_8abf5 1 (some .int) ∈ vm_G := vm_r6 _ (List.mem_of_getElem? (i := 22) rfl)
theorem vm_sl2 : Cond.instanceMethod yJ0_length_8abf5 ∈ vm_G := vm_r6 _ (List.mem_of_getElem? (i := 19) rfl)
theorem vm_sl3 : Cond.selects "java/lang/String" yJ0_length_8abf5 yJ0_length_8abf5 ∈ vm_G := vm_r6 _ (List.mem_of_getElem? (i := 20) rfl)
theorem vm_sl4 : Cond.initialized yJ0_length_8abf5.cls ∈ vm_G := vm_r6 _ (List.mem_of_getElem? (i := 21) rfl)
theorem vm_sc1 : Cond.code yJ0_charAt_5068e cJ0_charAt_5068e 2 (some .char) ∈ vm_G := vm_r7 _ (List.mem_of_getElem? (i := 9) rfl)
theorem vm_sc2 : Cond.instanceMethod yJ0_charAt_5068e ∈ vm_G := vm_r7 _ (List.mem_of_getElem? (i := 7) rfl)
theorem vm_sc3 : Cond.selects "java/lang/String" yJ0_charAt_5068e yJ0_charAt_5068e ∈ vm_G := vm_r7 _ (List.mem_of_getElem? (i := 8) rfl)
theorem vm_sc4 : Cond.initialized yJ0_charAt_5068e.cls ∈ vm_G := vm_r6 _ (List.mem_of_getElem? (i := 21) rfl)
theorem vm_SI_mv {adS adV base : Nat} {s U : State} {H : Heap} (h : vm_SI adS adV base s) (hW : s.WarmedH U.vm) (hb : base ≤ s.heap.size) (hU : U.heap = H) (hH : ∀ q : Nat, q < base → H[q]? = s.heap[q]?) : vm_SI adS adV base U := by
  have hk : ∀ a : Nat, a < s.heap.size → ¬ base ≤ a → U.heap[a]? = s.heap[a]? := fun a _ ha => by rw [hU]; exact hH a (Nat.lt_of_not_le ha)
  exact ⟨vk_R.warm hW h.1, (h.2.1.moved hW.alike).kept hk, (h.2.2.1.moved hW.alike).kept hk, (h.2.2.2.moved hW.alike).kept hk⟩
section VMT
variable {p : Program} {l : Launch} {e : Env} {R : Room} {s : State} {m : MethodId} {args : Array Value} {below : List Frame} {meth : Method} {c : Code} {H : Heap} {locs : List Loc} {Q : State → Prop}
variable {D : va_G} {κ : Nat → ClassId} {base b adS adV L : Nat} {xs : Nat → Int32} {r : vm_M} {lsr : Array Slot} {ls ls' : vm_L} {st st' : List Value} {w w' : vm_W} {pc' n0 k0 d : Nat}
set_option maxHeartbeats 4000000 in
theorem vm_str_W {y : MethodName} {bytes : ByteArray} {maxL n x pc : Nat} {ret : FieldType} {ws : List Cond} {As : List Value} {st0 : List Value} {z : Int32} {cells slots : Nat} (hpc : vm_H D κ base b adS L xs w H → True)
    (C : vm_C D κ base b adS adV L xs p s m args meth c r) (hd : 10 ≤ d ∧ d ≤ R.frames ∧ 40 * d + 20 ≤ R.locals) (hws : ws = .code y bytes maxL (some ret) :: vm_G) (hcode : .code y bytes maxL (some ret) ∈ vm_G) (hmaxL : maxL ≤ 20)
    (hM : Met l y ws vm_rmS (fun a U => a = (Value.ref adS :: As).toArray ∧ vm_SI adS adV base U) (fun _ st o t => o = .returned (some (.int z)) ∧ t.heap = st.heap) 0 0 (fun q => base ≤ q))
    (hl : Cond.methodLink r.1 x y ∈ vm_G) (hin : Cond.instanceMethod y ∈ vm_G) (hse : Cond.selects "java/lang/String" y y ∈ vm_G) (hini : Cond.initialized y.cls ∈ vm_G) (hy : y.cls ≠ "java/lang/invoke/MethodHandle" ∧ y.cls ≠ "java/lang/invoke/VarHandle" ∧ (parseMethodDescriptor y.desc).map (fun d => d.parameters.length) = some n) (hn : As.length = n)
    (hst : (st0.map fun v => v.category).sum ≤ 8) (hdg : decode r.2.2.1 pc = .ok (.invokevirtual x, 3)) (hL : vm_LV (vm_r base b adS) lsr r.2.2.2.1 ls) (hT : vm_T D κ base b adS L xs s.heap w H locs) (hcl : cells ≤ R.cells ∧ slots ≤ R.slots)
    (kk : ∀ locs', vm_T D κ base b adS L xs s.heap w H locs' → W p l e R s m args below meth c H locs' cells slots Q (F0 m (pc + 3) lsr (.int z :: st0))) :
    W p l e R s m args below meth c H locs cells slots Q (F0 m pc lsr (As.reverse ++ .ref adS :: st0)) := by
  obtain ⟨hx, hb, hml, hown, hts, hK, hAO, hN, hnm, hret, hlk, hX, hbb, hSI⟩ := C
  obtain ⟨t1, t2, t3, t4⟩ := hT
  have cb : CallB R s args r.1 x y bytes maxL (some ret) ws vm_rmS 0 0 n := callB_of n hts (ws' := vm_G) (fun w h => by rw [hws] at h; exact (List.mem_cons.mp h).elim (fun h => h ▸ vm_GG _ hcode) (fun h => vm_GG w h)) hws rfl rfl (hts _ hini) (hts _ hl) hy ⟨by show 8 + 1 ≤ R.frames; omega, by show 8 + (maxL + 11) + 340 ≤ R.locals; omega⟩
  have run := va_runV (p := p) (l := l) (e := e) (R := R) (s := s) (m := m) (args := args) (below := below) (meth := meth) (c := c) (H := H) (locs := locs) (cells := cells) (slots := slots) (C := "java/lang/String") (b := adS) (As := As) (rest := st0) (g := F0 m pc lsr (As.reverse ++ .ref adS :: st0)) ⟨hx, hb, hml, hown, hts⟩ hM ⟨cb, hts _ hin, hts _ hse⟩
    ⟨fun a U g mk q => ⟨q.1, q.2⟩, vk_recv (H := H) (locs := locs) hSI.2.1 (i := 0) (by decide) ⟨t2.2, fun q _ hq => t3 q (Nat.lt_of_not_le hq), t4⟩, fun U hU hW => ⟨rfl, vm_SI_mv hSI hW t2.1 hU t3⟩⟩ rfl hn hL.2.1 rfl (by show 2 * 0 + _ ≤ 8; omega) hdg ⟨by omega, by omega⟩
  intro T hT' X
  obtain ⟨v, st₀, t, T', L', h0, X', hL', e1, e2, ⟨q1, q2⟩, stp⟩ := run T hT' X
  cases q1
  obtain ⟨t2', a1, b1⟩ := kk (locs ++ L') ⟨t1, t2, t3, fun q hq => (List.mem_append.mp hq).elim (t4 q) (hL' q)⟩ T' (by rw [e1, q2, h0]) X'
  exact ⟨t2', stp t2' a1, b1⟩
set_option maxHeartbeats 1000000 in
theorem vm_s_iconst (n : Int) {pc len a bb cn o : Nat} (C : vm_C D κ base b adS adV L xs p s m args meth c r) (ho : vm_nm[o]? = some r.1) (hcl : r.2.1.cls = r.1) (hdg : decode r.2.2.1 pc = .ok ((.iconst n), len)) (hlen : len = vm_len (.iconst n) len)
    (hch : vm_chk o (pc, (.iconst n), len, a, bb, cn) = true) (hd : d ≤ R.frames ∧ 40 * d + 20 ≤ R.locals)
    (hs : vm_step d r (pc, (.iconst n), len, a, bb, cn) ls st w = some (pc', ls', st', w')) (hn : n0 ≤ w.1 ∧ k0 ≤ w.2.1) (hc : w'.1 ≤ n0 + R.cells ∧ w'.2.1 ≤ k0 + R.slots)
    (kk : ∀ lsr' H' locs', vm_LV (vm_r base b adS) lsr' r.2.2.2.1 ls' → vm_T D κ base b adS L xs s.heap w' H' locs' → W p l e R s m args below meth c H' locs' (w'.1 - n0) (w'.2.1 - k0) Q (F0 m pc' lsr' (st'.map (vm_v (vm_r base b adS)))))
    (hL : vm_LV (vm_r base b adS) lsr r.2.2.2.1 ls) (hT : vm_T D κ base b adS L xs s.heap w H locs) :
    W p l e R s m args below meth c H locs (w.1 - n0) (w.2.1 - k0) Q (F0 m pc lsr (st.map (vm_v (vm_r base b adS)))) := by
  have CC := C
  obtain ⟨hx, hb, hml, hown, hts, hK, hAO, hN, hnm, hret, hlk, hX, hbb, hSI⟩ := C
  have hw1 : w.1 ≤ 1000 := hT.1.2.1
  unfold vm_chk at hch
  rw [Bool.and_eq_true] at hch
  replace hch := hch.2
  cases (show len = 1 from hlen)
  cases (show some (pc + 1, ls, .int (Int32.ofInt n) :: st, w) = some _ from hs)
  exact lv_iconst hx hb hdg rfl (kk _ _ _ hL hT)
set_option maxHeartbeats 1000000 in
theorem vm_s_bipush (n : Int) {pc len a bb cn o : Nat} (C : vm_C D κ base b adS adV L xs p s m args meth c r) (ho : vm_nm[o]? = some r.1) (hcl : r.2.1.cls = r.1) (hdg : decode r.2.2.1 pc = .ok ((.bipush n), len)) (hlen : len = vm_len (.bipush n) len)
    (hch : vm_chk o (pc, (.bipush n), len, a, bb, cn) = true) (hd : d ≤ R.frames ∧ 40 * d + 20 ≤ R.locals)
    (hs : vm_step d r (pc, (.bipush n), len, a, bb, cn) ls st w = some (pc', ls', st', w')) (hn : n0 ≤ w.1 ∧ k0 ≤ w.2.1) (hc : w'.1 ≤ n0 + R.cells ∧ w'.2.1 ≤ k0 + R.slots)
    (kk : ∀ lsr' H' locs', vm_LV (vm_r base b adS) lsr' r.2.2.2.1 ls' → vm_T D κ base b adS L xs s.heap w' H' locs' → W p l e R s m args below meth c H' locs' (w'.1 - n0) (w'.2.1 - k0) Q (F0 m pc' lsr' (st'.map (vm_v (vm_r base b adS)))))
    (hL : vm_LV (vm_r base b adS) lsr r.2.2.2.1 ls) (hT : vm_T D κ base b adS L xs s.heap w H locs) :
    W p l e R s m args below meth c H locs (w.1 - n0) (w.2.1 - k0) Q (F0 m pc lsr (st.map (vm_v (vm_r base b adS)))) := by
  have CC := C
  obtain ⟨hx, hb, hml, hown, hts, hK, hAO, hN, hnm, hret, hlk, hX, hbb, hSI⟩ := C
  have hw1 : w.1 ≤ 1000 := hT.1.2.1
  unfold vm_chk at hch
  rw [Bool.and_eq_true] at hch
  replace hch := hch.2
  cases (show len = 2 from hlen)
  cases (show some (pc + 2, ls, .int (Int8.ofInt n).toInt32 :: st, w) = some _ from hs)
  exact lv_bipush hx hb hdg rfl (kk _ _ _ hL hT)
set_option maxHeartbeats 1000000 in
theorem vm_s_sipush (n : Int) {pc len a bb cn o : Nat} (C : vm_C D κ base b adS adV L xs p s m args meth c r) (ho : vm_nm[o]? = some r.1) (hcl : r.2.1.cls = r.1) (hdg : decode r.2.2.1 pc = .ok ((.sipush n), len)) (hlen : len = vm_len (.sipush n) len)
    (hch : vm_chk o (pc, (.sipush n), len, a, bb, cn) = true) (hd : d ≤ R.frames ∧ 40 * d + 20 ≤ R.locals)
    (hs : vm_step d r (pc, (.sipush n), len, a, bb, cn) ls st w = some (pc', ls', st', w')) (hn : n0 ≤ w.1 ∧ k0 ≤ w.2.1) (hc : w'.1 ≤ n0 + R.cells ∧ w'.2.1 ≤ k0 + R.slots)
    (kk : ∀ lsr' H' locs', vm_LV (vm_r base b adS) lsr' r.2.2.2.1 ls' → vm_T D κ base b adS L xs s.heap w' H' locs' → W p l e R s m args below meth c H' locs' (w'.1 - n0) (w'.2.1 - k0) Q (F0 m pc' lsr' (st'.map (vm_v (vm_r base b adS)))))
    (hL : vm_LV (vm_r base b adS) lsr r.2.2.2.1 ls) (hT : vm_T D κ base b adS L xs s.heap w H locs) :
    W p l e R s m args below meth c H locs (w.1 - n0) (w.2.1 - k0) Q (F0 m pc lsr (st.map (vm_v (vm_r base b adS)))) := by
  have CC := C
  obtain ⟨hx, hb, hml, hown, hts, hK, hAO, hN, hnm, hret, hlk, hX, hbb, hSI⟩ := C
  have hw1 : w.1 ≤ 1000 := hT.1.2.1
  unfold vm_chk at hch
  rw [Bool.and_eq_true] at hch
  replace hch := hch.2
  cases (show len = 3 from hlen)
  cases (show some (pc + 3, ls, .int (Int16.ofInt n).toInt32 :: st, w) = some _ from hs)
  exact lv_sipush hx hb hdg rfl (kk _ _ _ hL hT)
set_option maxHeartbeats 1000000 in
theorem vm_s_lconst (n : Fin 2) {pc len a bb cn o : Nat} (C : vm_C D κ base b adS adV L xs p s m args meth c r) (ho : vm_nm[o]? = some r.1) (hcl : r.2.1.cls = r.1) (hdg : decode r.2.2.1 pc = .ok ((.lconst n), len)) (hlen : len = vm_len (.lconst n) len)
    (hch : vm_chk o (pc, (.lconst n), len, a, bb, cn) = true) (hd : d ≤ R.frames ∧ 40 * d + 20 ≤ R.locals)
    (hs : vm_step d r (pc, (.lconst n), len, a, bb, cn) ls st w = some (pc', ls', st', w')) (hn : n0 ≤ w.1 ∧ k0 ≤ w.2.1) (hc : w'.1 ≤ n0 + R.cells ∧ w'.2.1 ≤ k0 + R.slots)
    (kk : ∀ lsr' H' locs', vm_LV (vm_r base b adS) lsr' r.2.2.2.1 ls' → vm_T D κ base b adS L xs s.heap w' H' locs' → W p l e R s m args below meth c H' locs' (w'.1 - n0) (w'.2.1 - k0) Q (F0 m pc' lsr' (st'.map (vm_v (vm_r base b adS)))))
    (hL : vm_LV (vm_r base b adS) lsr r.2.2.2.1 ls) (hT : vm_T D κ base b adS L xs s.heap w H locs) :
    W p l e R s m args below meth c H locs (w.1 - n0) (w.2.1 - k0) Q (F0 m pc lsr (st.map (vm_v (vm_r base b adS)))) := by
  have CC := C
  obtain ⟨hx, hb, hml, hown, hts, hK, hAO, hN, hnm, hret, hlk, hX, hbb, hSI⟩ := C
  have hw1 : w.1 ≤ 1000 := hT.1.2.1
  unfold vm_chk at hch
  rw [Bool.and_eq_true] at hch
  replace hch := hch.2
  cases (show len = 1 from hlen)
  cases (show some (pc + 1, ls, .long (Int64.ofNat (n : Nat)) :: st, w) = some _ from hs)
  exact lv_lconst hx hb hdg rfl (kk _ _ _ hL hT)
set_option maxHeartbeats 1000000 in
theorem vm_s_aconst_null  {pc len a bb cn o : Nat} (C : vm_C D κ base b adS adV L xs p s m args meth c r) (ho : vm_nm[o]? = some r.1) (hcl : r.2.1.cls = r.1) (hdg : decode r.2.2.1 pc = .ok (.aconst_null, len)) (hlen : len = vm_len .aconst_null len)
    (hch : vm_chk o (pc, .aconst_null, len, a, bb, cn) = true) (hd : d ≤ R.frames ∧ 40 * d + 20 ≤ R.locals)
    (hs : vm_step d r (pc, .aconst_null, len, a, bb, cn) ls st w = some (pc', ls', st', w')) (hn : n0 ≤ w.1 ∧ k0 ≤ w.2.1) (hc : w'.1 ≤ n0 + R.cells ∧ w'.2.1 ≤ k0 + R.slots)
    (kk : ∀ lsr' H' locs', vm_LV (vm_r base b adS) lsr' r.2.2.2.1 ls' → vm_T D κ base b adS L xs s.heap w' H' locs' → W p l e R s m args below meth c H' locs' (w'.1 - n0) (w'.2.1 - k0) Q (F0 m pc' lsr' (st'.map (vm_v (vm_r base b adS)))))
    (hL : vm_LV (vm_r base b adS) lsr r.2.2.2.1 ls) (hT : vm_T D κ base b adS L xs s.heap w H locs) :
    W p l e R s m args below meth c H locs (w.1 - n0) (w.2.1 - k0) Q (F0 m pc lsr (st.map (vm_v (vm_r base b adS)))) := by
  have CC := C
  obtain ⟨hx, hb, hml, hown, hts, hK, hAO, hN, hnm, hret, hlk, hX, hbb, hSI⟩ := C
  have hw1 : w.1 ≤ 1000 := hT.1.2.1
  unfold vm_chk at hch
  rw [Bool.and_eq_true] at hch
  replace hch := hch.2
  cases (show len = 1 from hlen)
  cases (show some (pc + 1, ls, Value.null :: st, w) = some _ from hs)
  exact lv_null hx hb hdg (kk _ _ _ hL hT)
set_option maxHeartbeats 1000000 in
theorem vm_s_ldc (x : Nat) {pc len a bb cn o : Nat} (C : vm_C D κ base b adS adV L xs p s m args meth c r) (ho : vm_nm[o]? = some r.1) (hcl : r.2.1.cls = r.1) (hdg : decode r.2.2.1 pc = .ok ((.ldc x), len)) (hlen : len = vm_len (.ldc x) len)
    (hch : vm_chk o (pc, (.ldc x), len, a, bb, cn) = true) (hd : d ≤ R.frames ∧ 40 * d + 20 ≤ R.locals)
    (hs : vm_step d r (pc, (.ldc x), len, a, bb, cn) ls st w = some (pc', ls', st', w')) (hn : n0 ≤ w.1 ∧ k0 ≤ w.2.1) (hc : w'.1 ≤ n0 + R.cells ∧ w'.2.1 ≤ k0 + R.slots)
    (kk : ∀ lsr' H' locs', vm_LV (vm_r base b adS) lsr' r.2.2.2.1 ls' → vm_T D κ base b adS L xs s.heap w' H' locs' → W p l e R s m args below meth c H' locs' (w'.1 - n0) (w'.2.1 - k0) Q (F0 m pc' lsr' (st'.map (vm_v (vm_r base b adS)))))
    (hL : vm_LV (vm_r base b adS) lsr r.2.2.2.1 ls) (hT : vm_T D κ base b adS L xs s.heap w H locs) :
    W p l e R s m args below meth c H locs (w.1 - n0) (w.2.1 - k0) Q (F0 m pc lsr (st.map (vm_v (vm_r base b adS)))) := by
  have CC := C
  obtain ⟨hx, hb, hml, hown, hts, hK, hAO, hN, hnm, hret, hlk, hX, hbb, hSI⟩ := C
  have hw1 : w.1 ≤ 1000 := hT.1.2.1
  unfold vm_chk at hch
  rw [Bool.and_eq_true] at hch
  replace hch := hch.2
  cases (show len = 2 from hlen)
  have hs : (if a = 99 then some (pc + 2, ls, .ref vm_str :: st, w) else vm_lc (vm_KI[a]?.map Value.int) (pc + 2) ls st w) = some (pc', ls', st', w') := hs
  have hch : (if a = 99 then (o == 10 && x == 89) else decide ((o, x, a) ∈ vm_iT)) = true := hch
  by_cases ha : a = 99
  · rw [if_pos ha] at hs hch
    cases hs
    rw [Bool.and_eq_true, beq_iff_eq, beq_iff_eq] at hch
    obtain ⟨rfl, rfl⟩ := hch
    have hR : r.1 = RX10 := Option.some.inj (ho.symm.trans rfl)
    rw [hR] at hown
    exact va_ldcS hx hb hown hSI.1 hdg (kk _ _ _ hL hT)
  · rw [if_neg ha] at hs hch
    obtain ⟨own, v, g1, g2, g3⟩ := vm_iT_ok _ (of_decide_eq_true hch)
    cases ho.symm.trans g1
    have g2 : vm_KI[a]? = some v := g2
    obtain ⟨v', e1, rfl, rfl, rfl, rfl⟩ := vm_lc_i hs
    rw [g2] at e1
    cases e1
    exact lv_ldc hx hb hown (hts _ g3) hdg (kk _ _ _ hL hT)
set_option maxHeartbeats 1000000 in
theorem vm_s_ldc2_w (x : Nat) {pc len a bb cn o : Nat} (C : vm_C D κ base b adS adV L xs p s m args meth c r) (ho : vm_nm[o]? = some r.1) (hcl : r.2.1.cls = r.1) (hdg : decode r.2.2.1 pc = .ok ((.ldc2_w x), len)) (hlen : len = vm_len (.ldc2_w x) len)
    (hch : vm_chk o (pc, (.ldc2_w x), len, a, bb, cn) = true) (hd : d ≤ R.frames ∧ 40 * d + 20 ≤ R.locals)
    (hs : vm_step d r (pc, (.ldc2_w x), len, a, bb, cn) ls st w = some (pc', ls', st', w')) (hn : n0 ≤ w.1 ∧ k0 ≤ w.2.1) (hc : w'.1 ≤ n0 + R.cells ∧ w'.2.1 ≤ k0 + R.slots)
    (kk : ∀ lsr' H' locs', vm_LV (vm_r base b adS) lsr' r.2.2.2.1 ls' → vm_T D κ base b adS L xs s.heap w' H' locs' → W p l e R s m args below meth c H' locs' (w'.1 - n0) (w'.2.1 - k0) Q (F0 m pc' lsr' (st'.map (vm_v (vm_r base b adS)))))
    (hL : vm_LV (vm_r base b adS) lsr r.2.2.2.1 ls) (hT : vm_T D κ base b adS L xs s.heap w H locs) :
    W p l e R s m args below meth c H locs (w.1 - n0) (w.2.1 - k0) Q (F0 m pc lsr (st.map (vm_v (vm_r base b adS)))) := by
  have CC := C
  obtain ⟨hx, hb, hml, hown, hts, hK, hAO, hN, hnm, hret, hlk, hX, hbb, hSI⟩ := C
  have hw1 : w.1 ≤ 1000 := hT.1.2.1
  unfold vm_chk at hch
  rw [Bool.and_eq_true] at hch
  replace hch := hch.2
  cases (show len = 3 from hlen)
  obtain ⟨own, v, g1, g2, g3⟩ := vm_lT_ok _ (of_decide_eq_true (show decide ((o, x, a) ∈ vm_lT) = true from hch))
  cases ho.symm.trans g1
  have g2 : vm_KL[a]? = some v := g2
  obtain ⟨v', e1, rfl, rfl, rfl, rfl⟩ := vm_lc_i (show vm_lc (vm_KL[a]?.map Value.long) (pc + 3) ls st w = some (pc', ls', st', w') from hs)
  rw [g2] at e1
  cases e1
  exact lv_ldc2 hx hb hown (hts _ g3) hdg (kk _ _ _ hL hT)
set_option maxHeartbeats 1000000 in
theorem vm_s_iload_n (k : Fin 4) {pc len a bb cn o : Nat} (C : vm_C D κ base b adS adV L xs p s m args meth c r) (ho : vm_nm[o]? = some r.1) (hcl : r.2.1.cls = r.1) (hdg : decode r.2.2.1 pc = .ok ((.iload_n k), len)) (hlen : len = vm_len (.iload_n k) len)
    (hch : vm_chk o (pc, (.iload_n k), len, a, bb, cn) = true) (hd : d ≤ R.frames ∧ 40 * d + 20 ≤ R.locals)
    (hs : vm_step d r (pc, (.iload_n k), len, a, bb, cn) ls st w = some (pc', ls', st', w')) (hn : n0 ≤ w.1 ∧ k0 ≤ w.2.1) (hc : w'.1 ≤ n0 + R.cells ∧ w'.2.1 ≤ k0 + R.slots)
    (kk : ∀ lsr' H' locs', vm_LV (vm_r base b adS) lsr' r.2.2.2.1 ls' → vm_T D κ base b adS L xs s.heap w' H' locs' → W p l e R s m args below meth c H' locs' (w'.1 - n0) (w'.2.1 - k0) Q (F0 m pc' lsr' (st'.map (vm_v (vm_r base b adS)))))
    (hL : vm_LV (vm_r base b adS) lsr r.2.2.2.1 ls) (hT : vm_T D κ base b adS L xs s.heap w H locs) :
    W p l e R s m args below meth c H locs (w.1 - n0) (w.2.1 - k0) Q (F0 m pc lsr (st.map (vm_v (vm_r base b adS)))) := by
  have CC := C
  obtain ⟨hx, hb, hml, hown, hts, hK, hAO, hN, hnm, hret, hlk, hX, hbb, hSI⟩ := C
  have hw1 : w.1 ≤ 1000 := hT.1.2.1
  unfold vm_chk at hch
  rw [Bool.and_eq_true] at hch
  replace hch := hch.2
  cases (show len = 1 from hlen)
  obtain ⟨v, e1, e2, rfl, rfl, rfl, rfl⟩ := vm_push_i (show vm_push (vm_ld ls k) vm_isI (pc + 1) ls st w = some (pc', ls', st', w') from hs)
  obtain ⟨x, rfl⟩ := vm_isI_i e2
  exact lv_iload_n hx hb hdg rfl (hL.2.2.2 _ _ e1) (kk _ _ _ hL hT)
set_option maxHeartbeats 1000000 in
theorem vm_s_iload (k : Nat) {pc len a bb cn o : Nat} (C : vm_C D κ base b adS adV L xs p s m args meth c r) (ho : vm_nm[o]? = some r.1) (hcl : r.2.1.cls = r.1) (hdg : decode r.2.2.1 pc = .ok ((.iload k), len)) (hlen : len = vm_len (.iload k) len)
    (hch : vm_chk o (pc, (.iload k), len, a, bb, cn) = true) (hd : d ≤ R.frames ∧ 40 * d + 20 ≤ R.locals)
    (hs : vm_step d r (pc, (.iload k), len, a, bb, cn) ls st w = some (pc', ls', st', w')) (hn : n0 ≤ w.1 ∧ k0 ≤ w.2.1) (hc : w'.1 ≤ n0 + R.cells ∧ w'.2.1 ≤ k0 + R.slots)
    (kk : ∀ lsr' H' locs', vm_LV (vm_r base b adS) lsr' r.2.2.2.1 ls' → vm_T D κ base b adS L xs s.heap w' H' locs' → W p l e R s m args below meth c H' locs' (w'.1 - n0) (w'.2.1 - k0) Q (F0 m pc' lsr' (st'.map (vm_v (vm_r base b adS)))))
    (hL : vm_LV (vm_r base b adS) lsr r.2.2.2.1 ls) (hT : vm_T D κ base b adS L xs s.heap w H locs) :
    W p l e R s m args below meth c H locs (w.1 - n0) (w.2.1 - k0) Q (F0 m pc lsr (st.map (vm_v (vm_r base b adS)))) := by
  have CC := C
  obtain ⟨hx, hb, hml, hown, hts, hK, hAO, hN, hnm, hret, hlk, hX, hbb, hSI⟩ := C
  have hw1 : w.1 ≤ 1000 := hT.1.2.1
  unfold vm_chk at hch
  rw [Bool.and_eq_true] at hch
  replace hch := hch.2
  cases (show len = 2 from hlen)
  obtain ⟨v, e1, e2, rfl, rfl, rfl, rfl⟩ := vm_push_i (show vm_push (vm_ld ls k) vm_isI (pc + 2) ls st w = some (pc', ls', st', w') from hs)
  obtain ⟨x, rfl⟩ := vm_isI_i e2
  exact lv_iload hx hb hdg (hL.2.2.2 _ _ e1) (kk _ _ _ hL hT)
set_option maxHeartbeats 1000000 in
theorem vm_s_lload_n (k : Fin 4) {pc len a bb cn o : Nat} (C : vm_C D κ base b adS adV L xs p s m args meth c r) (ho : vm_nm[o]? = some r.1) (hcl : r.2.1.cls = r.1) (hdg : decode r.2.2.1 pc = .ok ((.lload_n k), len)) (hlen : len = vm_len (.lload_n k) len)
    (hch : vm_chk o (pc, (.lload_n k), len, a, bb, cn) = true) (hd : d ≤ R.frames ∧ 40 * d + 20 ≤ R.locals)
    (hs : vm_step d r (pc, (.lload_n k), len, a, bb, cn) ls st w = some (pc', ls', st', w')) (hn : n0 ≤ w.1 ∧ k0 ≤ w.2.1) (hc : w'.1 ≤ n0 + R.cells ∧ w'.2.1 ≤ k0 + R.slots)
    (kk : ∀ lsr' H' locs', vm_LV (vm_r base b adS) lsr' r.2.2.2.1 ls' → vm_T D κ base b adS L xs s.heap w' H' locs' → W p l e R s m args below meth c H' locs' (w'.1 - n0) (w'.2.1 - k0) Q (F0 m pc' lsr' (st'.map (vm_v (vm_r base b adS)))))
    (hL : vm_LV (vm_r base b adS) lsr r.2.2.2.1 ls) (hT : vm_T D κ base b adS L xs s.heap w H locs) :
    W p l e R s m args below meth c H locs (w.1 - n0) (w.2.1 - k0) Q (F0 m pc lsr (st.map (vm_v (vm_r base b adS)))) := by
  have CC := C
  obtain ⟨hx, hb, hml, hown, hts, hK, hAO, hN, hnm, hret, hlk, hX, hbb, hSI⟩ := C
  have hw1 : w.1 ≤ 1000 := hT.1.2.1
  unfold vm_chk at hch
  rw [Bool.and_eq_true] at hch
  replace hch := hch.2
  cases (show len = 1 from hlen)
  obtain ⟨v, e1, e2, rfl, rfl, rfl, rfl⟩ := vm_push_i (show vm_push (vm_ld ls k) vm_isJ (pc + 1) ls st w = some (pc', ls', st', w') from hs)
  obtain ⟨x, rfl⟩ := vm_isJ_i e2
  exact lv_lload_n hx hb hdg rfl (hL.2.2.2 _ _ e1) (kk _ _ _ hL hT)
set_option maxHeartbeats 1000000 in
theorem vm_s_lload (k : Nat) {pc len a bb cn o : Nat} (C : vm_C D κ base b adS adV L xs p s m args meth c r) (ho : vm_nm[o]? = some r.1) (hcl : r.2.1.cls = r.1) (hdg : decode r.2.2.1 pc = .ok ((.lload k), len)) (hlen : len = vm_len (.lload k) len)
    (hch : vm_chk o (pc, (.lload k), len, a, bb, cn) = true) (hd : d ≤ R.frames ∧ 40 * d + 20 ≤ R.locals)
    (hs : vm_step d r (pc, (.lload k), len, a, bb, cn) ls st w = some (pc', ls', st', w')) (hn : n0 ≤ w.1 ∧ k0 ≤ w.2.1) (hc : w'.1 ≤ n0 + R.cells ∧ w'.2.1 ≤ k0 + R.slots)
    (kk : ∀ lsr' H' locs', vm_LV (vm_r base b adS) lsr' r.2.2.2.1 ls' → vm_T D κ base b adS L xs s.heap w' H' locs' → W p l e R s m args below meth c H' locs' (w'.1 - n0) (w'.2.1 - k0) Q (F0 m pc' lsr' (st'.map (vm_v (vm_r base b adS)))))
    (hL : vm_LV (vm_r base b adS) lsr r.2.2.2.1 ls) (hT : vm_T D κ base b adS L xs s.heap w H locs) :
    W p l e R s m args below meth c H locs (w.1 - n0) (w.2.1 - k0) Q (F0 m pc lsr (st.map (vm_v (vm_r base b adS)))) := by
  have CC := C
  obtain ⟨hx, hb, hml, hown, hts, hK, hAO, hN, hnm, hret, hlk, hX, hbb, hSI⟩ := C
  have hw1 : w.1 ≤ 1000 := hT.1.2.1
  unfold vm_chk at hch
  rw [Bool.and_eq_true] at hch
  replace hch := hch.2
  cases (show len = 2 from hlen)
  obtain ⟨v, e1, e2, rfl, rfl, rfl, rfl⟩ := vm_push_i (show vm_push (vm_ld ls k) vm_isJ (pc + 2) ls st w = some (pc', ls', st', w') from hs)
  obtain ⟨x, rfl⟩ := vm_isJ_i e2
  exact lv_lload hx hb hdg (hL.2.2.2 _ _ e1) (kk _ _ _ hL hT)
set_option maxHeartbeats 1000000 in
theorem vm_s_aload_n (k : Fin 4) {pc len a bb cn o : Nat} (C : vm_C D κ base b adS adV L xs p s m args meth c r) (ho : vm_nm[o]? = some r.1) (hcl : r.2.1.cls = r.1) (hdg : decode r.2.2.1 pc = .ok ((.aload_n k), len)) (hlen : len = vm_len (.aload_n k) len)
    (hch : vm_chk o (pc, (.aload_n k), len, a, bb, cn) = true) (hd : d ≤ R.frames ∧ 40 * d + 20 ≤ R.locals)
    (hs : vm_step d r (pc, (.aload_n k), len, a, bb, cn) ls st w = some (pc', ls', st', w')) (hn : n0 ≤ w.1 ∧ k0 ≤ w.2.1) (hc : w'.1 ≤ n0 + R.cells ∧ w'.2.1 ≤ k0 + R.slots)
    (kk : ∀ lsr' H' locs', vm_LV (vm_r base b adS) lsr' r.2.2.2.1 ls' → vm_T D κ base b adS L xs s.heap w' H' locs' → W p l e R s m args below meth c H' locs' (w'.1 - n0) (w'.2.1 - k0) Q (F0 m pc' lsr' (st'.map (vm_v (vm_r base b adS)))))
    (hL : vm_LV (vm_r base b adS) lsr r.2.2.2.1 ls) (hT : vm_T D κ base b adS L xs s.heap w H locs) :
    W p l e R s m args below meth c H locs (w.1 - n0) (w.2.1 - k0) Q (F0 m pc lsr (st.map (vm_v (vm_r base b adS)))) := by
  have CC := C
  obtain ⟨hx, hb, hml, hown, hts, hK, hAO, hN, hnm, hret, hlk, hX, hbb, hSI⟩ := C
  have hw1 : w.1 ≤ 1000 := hT.1.2.1
  unfold vm_chk at hch
  rw [Bool.and_eq_true] at hch
  replace hch := hch.2
  cases (show len = 1 from hlen)
  obtain ⟨v, e1, e2, rfl, rfl, rfl, rfl⟩ := vm_push_i (show vm_push (vm_ld ls k) vm_isA (pc + 1) ls st w = some (pc', ls', st', w') from hs)
  obtain ⟨x, rfl⟩ := vm_isA_i e2
  exact lv_aload_n hx hb hdg rfl (hL.2.2.2 _ _ e1) (kk _ _ _ hL hT)
set_option maxHeartbeats 1000000 in
theorem vm_s_istore_n (k : Fin 4) {pc len a bb cn o : Nat} (C : vm_C D κ base b adS adV L xs p s m args meth c r) (ho : vm_nm[o]? = some r.1) (hcl : r.2.1.cls = r.1) (hdg : decode r.2.2.1 pc = .ok ((.istore_n k), len)) (hlen : len = vm_len (.istore_n k) len)
    (hch : vm_chk o (pc, (.istore_n k), len, a, bb, cn) = true) (hd : d ≤ R.frames ∧ 40 * d + 20 ≤ R.locals)
    (hs : vm_step d r (pc, (.istore_n k), len, a, bb, cn) ls st w = some (pc', ls', st', w')) (hn : n0 ≤ w.1 ∧ k0 ≤ w.2.1) (hc : w'.1 ≤ n0 + R.cells ∧ w'.2.1 ≤ k0 + R.slots)
    (kk : ∀ lsr' H' locs', vm_LV (vm_r base b adS) lsr' r.2.2.2.1 ls' → vm_T D κ base b adS L xs s.heap w' H' locs' → W p l e R s m args below meth c H' locs' (w'.1 - n0) (w'.2.1 - k0) Q (F0 m pc' lsr' (st'.map (vm_v (vm_r base b adS)))))
    (hL : vm_LV (vm_r base b adS) lsr r.2.2.2.1 ls) (hT : vm_T D κ base b adS L xs s.heap w H locs) :
    W p l e R s m args below meth c H locs (w.1 - n0) (w.2.1 - k0) Q (F0 m pc lsr (st.map (vm_v (vm_r base b adS)))) := by
  have CC := C
  obtain ⟨hx, hb, hml, hown, hts, hK, hAO, hN, hnm, hret, hlk, hX, hbb, hSI⟩ := C
  have hw1 : w.1 ≤ 1000 := hT.1.2.1
  unfold vm_chk at hch
  rw [Bool.and_eq_true] at hch
  replace hch := hch.2
  cases (show len = 1 from hlen)
  obtain ⟨x, st0, rfl, e2, rfl, rfl, rfl, rfl⟩ := vm_sti_i (show vm_sti (pc + 1) k ls st w = some (pc', ls', st', w') from hs)
  exact lv_istore_n hx hb hdg rfl (vm_has hL) (by rw [← hL.1]; exact e2) rfl (fun ls2 h2 => kk _ _ _ (vm_LV_st1 (v := .int x) hL e2 h2) hT)
set_option maxHeartbeats 1000000 in
theorem vm_s_istore (k : Nat) {pc len a bb cn o : Nat} (C : vm_C D κ base b adS adV L xs p s m args meth c r) (ho : vm_nm[o]? = some r.1) (hcl : r.2.1.cls = r.1) (hdg : decode r.2.2.1 pc = .ok ((.istore k), len)) (hlen : len = vm_len (.istore k) len)
    (hch : vm_chk o (pc, (.istore k), len, a, bb, cn) = true) (hd : d ≤ R.frames ∧ 40 * d + 20 ≤ R.locals)
    (hs : vm_step d r (pc, (.istore k), len, a, bb, cn) ls st w = some (pc', ls', st', w')) (hn : n0 ≤ w.1 ∧ k0 ≤ w.2.1) (hc : w'.1 ≤ n0 + R.cells ∧ w'.2.1 ≤ k0 + R.slots)
    (kk : ∀ lsr' H' locs', vm_LV (vm_r base b adS) lsr' r.2.2.2.1 ls' → vm_T D κ base b adS L xs s.heap w' H' locs' → W p l e R s m args below meth c H' locs' (w'.1 - n0) (w'.2.1 - k0) Q (F0 m pc' lsr' (st'.map (vm_v (vm_r base b adS)))))
    (hL : vm_LV (vm_r base b adS) lsr r.2.2.2.1 ls) (hT : vm_T D κ base b adS L xs s.heap w H locs) :
    W p l e R s m args below meth c H locs (w.1 - n0) (w.2.1 - k0) Q (F0 m pc lsr (st.map (vm_v (vm_r base b adS)))) := by
  have CC := C
  obtain ⟨hx, hb, hml, hown, hts, hK, hAO, hN, hnm, hret, hlk, hX, hbb, hSI⟩ := C
  have hw1 : w.1 ≤ 1000 := hT.1.2.1
  unfold vm_chk at hch
  rw [Bool.and_eq_true] at hch
  replace hch := hch.2
  cases (show len = 2 from hlen)
  obtain ⟨x, st0, rfl, e2, rfl, rfl, rfl, rfl⟩ := vm_sti_i (show vm_sti (pc + 2) k ls st w = some (pc', ls', st', w') from hs)
  exact lv_istore hx hb hdg (vm_has hL) (by rw [← hL.1]; exact e2) rfl (fun ls2 h2 => kk _ _ _ (vm_LV_st1 (v := .int x) hL e2 h2) hT)
set_option maxHeartbeats 1000000 in
theorem vm_s_astore_n (k : Fin 4) {pc len a bb cn o : Nat} (C : vm_C D κ base b adS adV L xs p s m args meth c r) (ho : vm_nm[o]? = some r.1) (hcl : r.2.1.cls = r.1) (hdg : decode r.2.2.1 pc = .ok ((.astore_n k), len)) (hlen : len = vm_len (.astore_n k) len)
    (hch : vm_chk o (pc, (.astore_n k), len, a, bb, cn) = true) (hd : d ≤ R.frames ∧ 40 * d + 20 ≤ R.locals)
    (hs : vm_step d r (pc, (.astore_n k), len, a, bb, cn) ls st w = some (pc', ls', st', w')) (hn : n0 ≤ w.1 ∧ k0 ≤ w.2.1) (hc : w'.1 ≤ n0 + R.cells ∧ w'.2.1 ≤ k0 + R.slots)
    (kk : ∀ lsr' H' locs', vm_LV (vm_r base b adS) lsr' r.2.2.2.1 ls' → vm_T D κ base b adS L xs s.heap w' H' locs' → W p l e R s m args below meth c H' locs' (w'.1 - n0) (w'.2.1 - k0) Q (F0 m pc' lsr' (st'.map (vm_v (vm_r base b adS)))))
    (hL : vm_LV (vm_r base b adS) lsr r.2.2.2.1 ls) (hT : vm_T D κ base b adS L xs s.heap w H locs) :
    W p l e R s m args below meth c H locs (w.1 - n0) (w.2.1 - k0) Q (F0 m pc lsr (st.map (vm_v (vm_r base b adS)))) := by
  have CC := C
  obtain ⟨hx, hb, hml, hown, hts, hK, hAO, hN, hnm, hret, hlk, hX, hbb, hSI⟩ := C
  have hw1 : w.1 ≤ 1000 := hT.1.2.1
  unfold vm_chk at hch
  rw [Bool.and_eq_true] at hch
  replace hch := hch.2
  cases (show len = 1 from hlen)
  obtain ⟨x, st0, rfl, e2, rfl, rfl, rfl, rfl⟩ := vm_sta_i (show vm_sta (pc + 1) k ls st w = some (pc', ls', st', w') from hs)
  exact lv_astore_n hx hb hdg rfl (vm_has hL) (by rw [← hL.1]; exact e2) rfl (fun ls2 h2 => kk _ _ _ (vm_LV_st1 (v := .ref x) hL e2 h2) hT)
set_option maxHeartbeats 1000000 in
theorem vm_s_lstore_n (k : Fin 4) {pc len a bb cn o : Nat} (C : vm_C D κ base b adS adV L xs p s m args meth c r) (ho : vm_nm[o]? = some r.1) (hcl : r.2.1.cls = r.1) (hdg : decode r.2.2.1 pc = .ok ((.lstore_n k), len)) (hlen : len = vm_len (.lstore_n k) len)
    (hch : vm_chk o (pc, (.lstore_n k), len, a, bb, cn) = true) (hd : d ≤ R.frames ∧ 40 * d + 20 ≤ R.locals)
    (hs : vm_step d r (pc, (.lstore_n k), len, a, bb, cn) ls st w = some (pc', ls', st', w')) (hn : n0 ≤ w.1 ∧ k0 ≤ w.2.1) (hc : w'.1 ≤ n0 + R.cells ∧ w'.2.1 ≤ k0 + R.slots)
    (kk : ∀ lsr' H' locs', vm_LV (vm_r base b adS) lsr' r.2.2.2.1 ls' → vm_T D κ base b adS L xs s.heap w' H' locs' → W p l e R s m args below meth c H' locs' (w'.1 - n0) (w'.2.1 - k0) Q (F0 m pc' lsr' (st'.map (vm_v (vm_r base b adS)))))
    (hL : vm_LV (vm_r base b adS) lsr r.2.2.2.1 ls) (hT : vm_T D κ base b adS L xs s.heap w H locs) :
    W p l e R s m args below meth c H locs (w.1 - n0) (w.2.1 - k0) Q (F0 m pc lsr (st.map (vm_v (vm_r base b adS)))) := by
  have CC := C
  obtain ⟨hx, hb, hml, hown, hts, hK, hAO, hN, hnm, hret, hlk, hX, hbb, hSI⟩ := C
  have hw1 : w.1 ≤ 1000 := hT.1.2.1
  unfold vm_chk at hch
  rw [Bool.and_eq_true] at hch
  replace hch := hch.2
  cases (show len = 1 from hlen)
  obtain ⟨x, st0, rfl, e2, rfl, rfl, rfl, rfl⟩ := vm_stl_i (show vm_stl (pc + 1) k ls st w = some (pc', ls', st', w') from hs)
  exact lv_lstore_n hx hb hdg rfl (vm_has hL) (by rw [← hL.1]; exact e2) rfl (fun ls2 h2 => kk _ _ _ (vm_LV_st2 (v := .long x) hL e2 h2) hT)
set_option maxHeartbeats 1000000 in
theorem vm_s_lstore (k : Nat) {pc len a bb cn o : Nat} (C : vm_C D κ base b adS adV L xs p s m args meth c r) (ho : vm_nm[o]? = some r.1) (hcl : r.2.1.cls = r.1) (hdg : decode r.2.2.1 pc = .ok ((.lstore k), len)) (hlen : len = vm_len (.lstore k) len)
    (hch : vm_chk o (pc, (.lstore k), len, a, bb, cn) = true) (hd : d ≤ R.frames ∧ 40 * d + 20 ≤ R.locals)
    (hs : vm_step d r (pc, (.lstore k), len, a, bb, cn) ls st w = some (pc', ls', st', w')) (hn : n0 ≤ w.1 ∧ k0 ≤ w.2.1) (hc : w'.1 ≤ n0 + R.cells ∧ w'.2.1 ≤ k0 + R.slots)
    (kk : ∀ lsr' H' locs', vm_LV (vm_r base b adS) lsr' r.2.2.2.1 ls' → vm_T D κ base b adS L xs s.heap w' H' locs' → W p l e R s m args below meth c H' locs' (w'.1 - n0) (w'.2.1 - k0) Q (F0 m pc' lsr' (st'.map (vm_v (vm_r base b adS)))))
    (hL : vm_LV (vm_r base b adS) lsr r.2.2.2.1 ls) (hT : vm_T D κ base b adS L xs s.heap w H locs) :
    W p l e R s m args below meth c H locs (w.1 - n0) (w.2.1 - k0) Q (F0 m pc lsr (st.map (vm_v (vm_r base b adS)))) := by
  have CC := C
  obtain ⟨hx, hb, hml, hown, hts, hK, hAO, hN, hnm, hret, hlk, hX, hbb, hSI⟩ := C
  have hw1 : w.1 ≤ 1000 := hT.1.2.1
  unfold vm_chk at hch
  rw [Bool.and_eq_true] at hch
  replace hch := hch.2
  cases (show len = 2 from hlen)
  obtain ⟨x, st0, rfl, e2, rfl, rfl, rfl, rfl⟩ := vm_stl_i (show vm_stl (pc + 2) k ls st w = some (pc', ls', st', w') from hs)
  exact lv_lstore hx hb hdg (vm_has hL) (by rw [← hL.1]; exact e2) rfl (fun ls2 h2 => kk _ _ _ (vm_LV_st2 (v := .long x) hL e2 h2) hT)
set_option maxHeartbeats 1000000 in
theorem vm_s_iinc (k : Nat) (n : Int) {pc len a bb cn o : Nat} (C : vm_C D κ base b adS adV L xs p s m args meth c r) (ho : vm_nm[o]? = some r.1) (hcl : r.2.1.cls = r.1) (hdg : decode r.2.2.1 pc = .ok ((.iinc k n), len)) (hlen : len = vm_len (.iinc k n) len)
    (hch : vm_chk o (pc, (.iinc k n), len, a, bb, cn) = true) (hd : d ≤ R.frames ∧ 40 * d + 20 ≤ R.locals)
    (hs : vm_step d r (pc, (.iinc k n), len, a, bb, cn) ls st w = some (pc', ls', st', w')) (hn : n0 ≤ w.1 ∧ k0 ≤ w.2.1) (hc : w'.1 ≤ n0 + R.cells ∧ w'.2.1 ≤ k0 + R.slots)
    (kk : ∀ lsr' H' locs', vm_LV (vm_r base b adS) lsr' r.2.2.2.1 ls' → vm_T D κ base b adS L xs s.heap w' H' locs' → W p l e R s m args below meth c H' locs' (w'.1 - n0) (w'.2.1 - k0) Q (F0 m pc' lsr' (st'.map (vm_v (vm_r base b adS)))))
    (hL : vm_LV (vm_r base b adS) lsr r.2.2.2.1 ls) (hT : vm_T D κ base b adS L xs s.heap w H locs) :
    W p l e R s m args below meth c H locs (w.1 - n0) (w.2.1 - k0) Q (F0 m pc lsr (st.map (vm_v (vm_r base b adS)))) := by
  have CC := C
  obtain ⟨hx, hb, hml, hown, hts, hK, hAO, hN, hnm, hret, hlk, hX, hbb, hSI⟩ := C
  have hw1 : w.1 ≤ 1000 := hT.1.2.1
  unfold vm_chk at hch
  rw [Bool.and_eq_true] at hch
  replace hch := hch.2
  cases (show len = 3 from hlen)
  obtain ⟨x, e1, e2, rfl, rfl, rfl, rfl⟩ := vm_iinc_i (show vm_iinc pc k n ls st w = some (pc', ls', st', w') from hs)
  obtain ⟨j, hj⟩ := List.getElem?_of_mem (vm_kn_in (ρ := vm_r base b adS) e1)
  exact lv_iinc hx hb hdg (vm_has hL) hj rfl (by rw [← hL.1]; exact e2) rfl (fun ls2 h2 => kk _ _ _ (vm_LV_st1 (v := .int (x + Int32.ofInt n)) hL e2 h2) hT)
set_option maxHeartbeats 1000000 in
theorem vm_s_iadd  {pc len a bb cn o : Nat} (C : vm_C D κ base b adS adV L xs p s m args meth c r) (ho : vm_nm[o]? = some r.1) (hcl : r.2.1.cls = r.1) (hdg : decode r.2.2.1 pc = .ok (.iadd, len)) (hlen : len = vm_len .iadd len)
    (hch : vm_chk o (pc, .iadd, len, a, bb, cn) = true) (hd : d ≤ R.frames ∧ 40 * d + 20 ≤ R.locals)
    (hs : vm_step d r (pc, .iadd, len, a, bb, cn) ls st w = some (pc', ls', st', w')) (hn : n0 ≤ w.1 ∧ k0 ≤ w.2.1) (hc : w'.1 ≤ n0 + R.cells ∧ w'.2.1 ≤ k0 + R.slots)
    (kk : ∀ lsr' H' locs', vm_LV (vm_r base b adS) lsr' r.2.2.2.1 ls' → vm_T D κ base b adS L xs s.heap w' H' locs' → W p l e R s m args below meth c H' locs' (w'.1 - n0) (w'.2.1 - k0) Q (F0 m pc' lsr' (st'.map (vm_v (vm_r base b adS)))))
    (hL : vm_LV (vm_r base b adS) lsr r.2.2.2.1 ls) (hT : vm_T D κ base b adS L xs s.heap w H locs) :
    W p l e R s m args below meth c H locs (w.1 - n0) (w.2.1 - k0) Q (F0 m pc lsr (st.map (vm_v (vm_r base b adS)))) := by
  have CC := C
  obtain ⟨hx, hb, hml, hown, hts, hK, hAO, hN, hnm, hret, hlk, hX, hbb, hSI⟩ := C
  have hw1 : w.1 ≤ 1000 := hT.1.2.1
  unfold vm_chk at hch
  rw [Bool.and_eq_true] at hch
  replace hch := hch.2
  cases (show len = 1 from hlen)
  obtain ⟨x, y, z, st0, rfl, e2, rfl, rfl, rfl, rfl⟩ := vm_bin_i (show vm_bin pc ls st w (fun x y => some (x + y)) = some (pc', ls', st', w') from hs)
  cases e2
  exact lv_iadd hx hb hdg (kk _ _ _ hL hT)
set_option maxHeartbeats 1000000 in
theorem vm_s_isub  {pc len a bb cn o : Nat} (C : vm_C D κ base b adS adV L xs p s m args meth c r) (ho : vm_nm[o]? = some r.1) (hcl : r.2.1.cls = r.1) (hdg : decode r.2.2.1 pc = .ok (.isub, len)) (hlen : len = vm_len .isub len)
    (hch : vm_chk o (pc, .isub, len, a, bb, cn) = true) (hd : d ≤ R.frames ∧ 40 * d + 20 ≤ R.locals)
    (hs : vm_step d r (pc, .isub, len, a, bb, cn) ls st w = some (pc', ls', st', w')) (hn : n0 ≤ w.1 ∧ k0 ≤ w.2.1) (hc : w'.1 ≤ n0 + R.cells ∧ w'.2.1 ≤ k0 + R.slots)
    (kk : ∀ lsr' H' locs', vm_LV (vm_r base b adS) lsr' r.2.2.2.1 ls' → vm_T D κ base b adS L xs s.heap w' H' locs' → W p l e R s m args below meth c H' locs' (w'.1 - n0) (w'.2.1 - k0) Q (F0 m pc' lsr' (st'.map (vm_v (vm_r base b adS)))))
    (hL : vm_LV (vm_r base b adS) lsr r.2.2.2.1 ls) (hT : vm_T D κ base b adS L xs s.heap w H locs) :
    W p l e R s m args below meth c H locs (w.1 - n0) (w.2.1 - k0) Q (F0 m pc lsr (st.map (vm_v (vm_r base b adS)))) := by
  have CC := C
  obtain ⟨hx, hb, hml, hown, hts, hK, hAO, hN, hnm, hret, hlk, hX, hbb, hSI⟩ := C
  have hw1 : w.1 ≤ 1000 := hT.1.2.1
  unfold vm_chk at hch
  rw [Bool.and_eq_true] at hch
  replace hch := hch.2
  cases (show len = 1 from hlen)
  obtain ⟨x, y, z, st0, rfl, e2, rfl, rfl, rfl, rfl⟩ := vm_bin_i (show vm_bin pc ls st w (fun x y => some (x - y)) = some (pc', ls', st', w') from hs)
  cases e2
  exact lv_isub hx hb hdg (kk _ _ _ hL hT)
set_option maxHeartbeats 1000000 in
theorem vm_s_imul  {pc len a bb cn o : Nat} (C : vm_C D κ base b adS adV L xs p s m args meth c r) (ho : vm_nm[o]? = some r.1) (hcl : r.2.1.cls = r.1) (hdg : decode r.2.2.1 pc = .ok (.imul, len)) (hlen : len = vm_len .imul len)
    (hch : vm_chk o (pc, .imul, len, a, bb, cn) = true) (hd : d ≤ R.frames ∧ 40 * d + 20 ≤ R.locals)
    (hs : vm_step d r (pc, .imul, len, a, bb, cn) ls st w = some (pc', ls', st', w')) (hn : n0 ≤ w.1 ∧ k0 ≤ w.2.1) (hc : w'.1 ≤ n0 + R.cells ∧ w'.2.1 ≤ k0 + R.slots)
    (kk : ∀ lsr' H' locs', vm_LV (vm_r base b adS) lsr' r.2.2.2.1 ls' → vm_T D κ base b adS L xs s.heap w' H' locs' → W p l e R s m args below meth c H' locs' (w'.1 - n0) (w'.2.1 - k0) Q (F0 m pc' lsr' (st'.map (vm_v (vm_r base b adS)))))
    (hL : vm_LV (vm_r base b adS) lsr r.2.2.2.1 ls) (hT : vm_T D κ base b adS L xs s.heap w H locs) :
    W p l e R s m args below meth c H locs (w.1 - n0) (w.2.1 - k0) Q (F0 m pc lsr (st.map (vm_v (vm_r base b adS)))) := by
  have CC := C
  obtain ⟨hx, hb, hml, hown, hts, hK, hAO, hN, hnm, hret, hlk, hX, hbb, hSI⟩ := C
  have hw1 : w.1 ≤ 1000 := hT.1.2.1
  unfold vm_chk at hch
  rw [Bool.and_eq_true] at hch
  replace hch := hch.2
  cases (show len = 1 from hlen)
  obtain ⟨x, y, z, st0, rfl, e2, rfl, rfl, rfl, rfl⟩ := vm_bin_i (show vm_bin pc ls st w (fun x y => some (x * y)) = some (pc', ls', st', w') from hs)
  cases e2
  exact lv_imul hx hb hdg (kk _ _ _ hL hT)
set_option maxHeartbeats 1000000 in
theorem vm_s_idiv  {pc len a bb cn o : Nat} (C : vm_C D κ base b adS adV L xs p s m args meth c r) (ho : vm_nm[o]? = some r.1) (hcl : r.2.1.cls = r.1) (hdg : decode r.2.2.1 pc = .ok (.idiv, len)) (hlen : len = vm_len .idiv len)
    (hch : vm_chk o (pc, .idiv, len, a, bb, cn) = true) (hd : d ≤ R.frames ∧ 40 * d + 20 ≤ R.locals)
    (hs : vm_step d r (pc, .idiv, len, a, bb, cn) ls st w = some (pc', ls', st', w')) (hn : n0 ≤ w.1 ∧ k0 ≤ w.2.1) (hc : w'.1 ≤ n0 + R.cells ∧ w'.2.1 ≤ k0 + R.slots)
    (kk : ∀ lsr' H' locs', vm_LV (vm_r base b adS) lsr' r.2.2.2.1 ls' → vm_T D κ base b adS L xs s.heap w' H' locs' → W p l e R s m args below meth c H' locs' (w'.1 - n0) (w'.2.1 - k0) Q (F0 m pc' lsr' (st'.map (vm_v (vm_r base b adS)))))
    (hL : vm_LV (vm_r base b adS) lsr r.2.2.2.1 ls) (hT : vm_T D κ base b adS L xs s.heap w H locs) :
    W p l e R s m args below meth c H locs (w.1 - n0) (w.2.1 - k0) Q (F0 m pc lsr (st.map (vm_v (vm_r base b adS)))) := by
  have CC := C
  obtain ⟨hx, hb, hml, hown, hts, hK, hAO, hN, hnm, hret, hlk, hX, hbb, hSI⟩ := C
  have hw1 : w.1 ≤ 1000 := hT.1.2.1
  unfold vm_chk at hch
  rw [Bool.and_eq_true] at hch
  replace hch := hch.2
  cases (show len = 1 from hlen)
  obtain ⟨x, y, z, st0, rfl, e2, rfl, rfl, rfl, rfl⟩ := vm_bin_i (show vm_bin pc ls st w (fun x y => if y = 0 then none else some (x / y)) = some (pc', ls', st', w') from hs)
  by_cases hy : y = 0
  · rw [if_pos hy] at e2; cases e2
  · rw [if_neg hy] at e2
    cases e2
    exact lv_idiv hx hb hdg hy (kk _ _ _ hL hT)
set_option maxHeartbeats 1000000 in
theorem vm_s_irem  {pc len a bb cn o : Nat} (C : vm_C D κ base b adS adV L xs p s m args meth c r) (ho : vm_nm[o]? = some r.1) (hcl : r.2.1.cls = r.1) (hdg : decode r.2.2.1 pc = .ok (.irem, len)) (hlen : len = vm_len .irem len)
    (hch : vm_chk o (pc, .irem, len, a, bb, cn) = true) (hd : d ≤ R.frames ∧ 40 * d + 20 ≤ R.locals)
    (hs : vm_step d r (pc, .irem, len, a, bb, cn) ls st w = some (pc', ls', st', w')) (hn : n0 ≤ w.1 ∧ k0 ≤ w.2.1) (hc : w'.1 ≤ n0 + R.cells ∧ w'.2.1 ≤ k0 + R.slots)
    (kk : ∀ lsr' H' locs', vm_LV (vm_r base b adS) lsr' r.2.2.2.1 ls' → vm_T D κ base b adS L xs s.heap w' H' locs' → W p l e R s m args below meth c H' locs' (w'.1 - n0) (w'.2.1 - k0) Q (F0 m pc' lsr' (st'.map (vm_v (vm_r base b adS)))))
    (hL : vm_LV (vm_r base b adS) lsr r.2.2.2.1 ls) (hT : vm_T D κ base b adS L xs s.heap w H locs) :
    W p l e R s m args below meth c H locs (w.1 - n0) (w.2.1 - k0) Q (F0 m pc lsr (st.map (vm_v (vm_r base b adS)))) := by
  have CC := C
  obtain ⟨hx, hb, hml, hown, hts, hK, hAO, hN, hnm, hret, hlk, hX, hbb, hSI⟩ := C
  have hw1 : w.1 ≤ 1000 := hT.1.2.1
  unfold vm_chk at hch
  rw [Bool.and_eq_true] at hch
  replace hch := hch.2
  cases (show len = 1 from hlen)
  obtain ⟨x, y, z, st0, rfl, e2, rfl, rfl, rfl, rfl⟩ := vm_bin_i (show vm_bin pc ls st w (fun x y => if y = 0 then none else some (x - x / y * y)) = some (pc', ls', st', w') from hs)
  by_cases hy : y = 0
  · rw [if_pos hy] at e2; cases e2
  · rw [if_neg hy] at e2
    cases e2
    exact lv_irem hx hb hdg hy (kk _ _ _ hL hT)
set_option maxHeartbeats 1000000 in
theorem vm_s_iand  {pc len a bb cn o : Nat} (C : vm_C D κ base b adS adV L xs p s m args meth c r) (ho : vm_nm[o]? = some r.1) (hcl : r.2.1.cls = r.1) (hdg : decode r.2.2.1 pc = .ok (.iand, len)) (hlen : len = vm_len .iand len)
    (hch : vm_chk o (pc, .iand, len, a, bb, cn) = true) (hd : d ≤ R.frames ∧ 40 * d + 20 ≤ R.locals)
    (hs : vm_step d r (pc, .iand, len, a, bb, cn) ls st w = some (pc', ls', st', w')) (hn : n0 ≤ w.1 ∧ k0 ≤ w.2.1) (hc : w'.1 ≤ n0 + R.cells ∧ w'.2.1 ≤ k0 + R.slots)
    (kk : ∀ lsr' H' locs', vm_LV (vm_r base b adS) lsr' r.2.2.2.1 ls' → vm_T D κ base b adS L xs s.heap w' H' locs' → W p l e R s m args below meth c H' locs' (w'.1 - n0) (w'.2.1 - k0) Q (F0 m pc' lsr' (st'.map (vm_v (vm_r base b adS)))))
    (hL : vm_LV (vm_r base b adS) lsr r.2.2.2.1 ls) (hT : vm_T D κ base b adS L xs s.heap w H locs) :
    W p l e R s m args below meth c H locs (w.1 - n0) (w.2.1 - k0) Q (F0 m pc lsr (st.map (vm_v (vm_r base b adS)))) := by
  have CC := C
  obtain ⟨hx, hb, hml, hown, hts, hK, hAO, hN, hnm, hret, hlk, hX, hbb, hSI⟩ := C
  have hw1 : w.1 ≤ 1000 := hT.1.2.1
  unfold vm_chk at hch
  rw [Bool.and_eq_true] at hch
  replace hch := hch.2
  cases (show len = 1 from hlen)
  obtain ⟨x, y, z, st0, rfl, e2, rfl, rfl, rfl, rfl⟩ := vm_bin_i (show vm_bin pc ls st w (fun x y => some (x &&& y)) = some (pc', ls', st', w') from hs)
  cases e2
  exact lv_iand hx hb hdg (kk _ _ _ hL hT)
set_option maxHeartbeats 1000000 in
theorem vm_s_ior  {pc len a bb cn o : Nat} (C : vm_C D κ base b adS adV L xs p s m args meth c r) (ho : vm_nm[o]? = some r.1) (hcl : r.2.1.cls = r.1) (hdg : decode r.2.2.1 pc = .ok (.ior, len)) (hlen : len = vm_len .ior len)
    (hch : vm_chk o (pc, .ior, len, a, bb, cn) = true) (hd : d ≤ R.frames ∧ 40 * d + 20 ≤ R.locals)
    (hs : vm_step d r (pc, .ior, len, a, bb, cn) ls st w = some (pc', ls', st', w')) (hn : n0 ≤ w.1 ∧ k0 ≤ w.2.1) (hc : w'.1 ≤ n0 + R.cells ∧ w'.2.1 ≤ k0 + R.slots)
    (kk : ∀ lsr' H' locs', vm_LV (vm_r base b adS) lsr' r.2.2.2.1 ls' → vm_T D κ base b adS L xs s.heap w' H' locs' → W p l e R s m args below meth c H' locs' (w'.1 - n0) (w'.2.1 - k0) Q (F0 m pc' lsr' (st'.map (vm_v (vm_r base b adS)))))
    (hL : vm_LV (vm_r base b adS) lsr r.2.2.2.1 ls) (hT : vm_T D κ base b adS L xs s.heap w H locs) :
    W p l e R s m args below meth c H locs (w.1 - n0) (w.2.1 - k0) Q (F0 m pc lsr (st.map (vm_v (vm_r base b adS)))) := by
  have CC := C
  obtain ⟨hx, hb, hml, hown, hts, hK, hAO, hN, hnm, hret, hlk, hX, hbb, hSI⟩ := C
  have hw1 : w.1 ≤ 1000 := hT.1.2.1
  unfold vm_chk at hch
  rw [Bool.and_eq_true] at hch
  replace hch := hch.2
  cases (show len = 1 from hlen)
  obtain ⟨x, y, z, st0, rfl, e2, rfl, rfl, rfl, rfl⟩ := vm_bin_i (show vm_bin pc ls st w (fun x y => some (x ||| y)) = some (pc', ls', st', w') from hs)
  cases e2
  exact lv_ior hx hb hdg (kk _ _ _ hL hT)
set_option maxHeartbeats 1000000 in
theorem vm_s_ixor  {pc len a bb cn o : Nat} (C : vm_C D κ base b adS adV L xs p s m args meth c r) (ho : vm_nm[o]? = some r.1) (hcl : r.2.1.cls = r.1) (hdg : decode r.2.2.1 pc = .ok (.ixor, len)) (hlen : len = vm_len .ixor len)
    (hch : vm_chk o (pc, .ixor, len, a, bb, cn) = true) (hd : d ≤ R.frames ∧ 40 * d + 20 ≤ R.locals)
    (hs : vm_step d r (pc, .ixor, len, a, bb, cn) ls st w = some (pc', ls', st', w')) (hn : n0 ≤ w.1 ∧ k0 ≤ w.2.1) (hc : w'.1 ≤ n0 + R.cells ∧ w'.2.1 ≤ k0 + R.slots)
    (kk : ∀ lsr' H' locs', vm_LV (vm_r base b adS) lsr' r.2.2.2.1 ls' → vm_T D κ base b adS L xs s.heap w' H' locs' → W p l e R s m args below meth c H' locs' (w'.1 - n0) (w'.2.1 - k0) Q (F0 m pc' lsr' (st'.map (vm_v (vm_r base b adS)))))
    (hL : vm_LV (vm_r base b adS) lsr r.2.2.2.1 ls) (hT : vm_T D κ base b adS L xs s.heap w H locs) :
    W p l e R s m args below meth c H locs (w.1 - n0) (w.2.1 - k0) Q (F0 m pc lsr (st.map (vm_v (vm_r base b adS)))) := by
  have CC := C
  obtain ⟨hx, hb, hml, hown, hts, hK, hAO, hN, hnm, hret, hlk, hX, hbb, hSI⟩ := C
  have hw1 : w.1 ≤ 1000 := hT.1.2.1
  unfold vm_chk at hch
  rw [Bool.and_eq_true] at hch
  replace hch := hch.2
  cases (show len = 1 from hlen)
  obtain ⟨x, y, z, st0, rfl, e2, rfl, rfl, rfl, rfl⟩ := vm_bin_i (show vm_bin pc ls st w (fun x y => some (x ^^^ y)) = some (pc', ls', st', w') from hs)
  cases e2
  exact lv_ixor hx hb hdg (kk _ _ _ hL hT)
set_option maxHeartbeats 1000000 in
theorem vm_s_ishl  {pc len a bb cn o : Nat} (C : vm_C D κ base b adS adV L xs p s m args meth c r) (ho : vm_nm[o]? = some r.1) (hcl : r.2.1.cls = r.1) (hdg : decode r.2.2.1 pc = .ok (.ishl, len)) (hlen : len = vm_len .ishl len)
    (hch : vm_chk o (pc, .ishl, len, a, bb, cn) = true) (hd : d ≤ R.frames ∧ 40 * d + 20 ≤ R.locals)
    (hs : vm_step d r (pc, .ishl, len, a, bb, cn) ls st w = some (pc', ls', st', w')) (hn : n0 ≤ w.1 ∧ k0 ≤ w.2.1) (hc : w'.1 ≤ n0 + R.cells ∧ w'.2.1 ≤ k0 + R.slots)
    (kk : ∀ lsr' H' locs', vm_LV (vm_r base b adS) lsr' r.2.2.2.1 ls' → vm_T D κ base b adS L xs s.heap w' H' locs' → W p l e R s m args below meth c H' locs' (w'.1 - n0) (w'.2.1 - k0) Q (F0 m pc' lsr' (st'.map (vm_v (vm_r base b adS)))))
    (hL : vm_LV (vm_r base b adS) lsr r.2.2.2.1 ls) (hT : vm_T D κ base b adS L xs s.heap w H locs) :
    W p l e R s m args below meth c H locs (w.1 - n0) (w.2.1 - k0) Q (F0 m pc lsr (st.map (vm_v (vm_r base b adS)))) := by
  have CC := C
  obtain ⟨hx, hb, hml, hown, hts, hK, hAO, hN, hnm, hret, hlk, hX, hbb, hSI⟩ := C
  have hw1 : w.1 ≤ 1000 := hT.1.2.1
  unfold vm_chk at hch
  rw [Bool.and_eq_true] at hch
  replace hch := hch.2
  cases (show len = 1 from hlen)
  obtain ⟨x, y, z, st0, rfl, e2, rfl, rfl, rfl, rfl⟩ := vm_bin_i (show vm_bin pc ls st w (fun x y => some (x <<< (y &&& 31))) = some (pc', ls', st', w') from hs)
  cases e2
  exact lv_ishl hx hb hdg (kk _ _ _ hL hT)
set_option maxHeartbeats 1000000 in
theorem vm_s_ishr  {pc len a bb cn o : Nat} (C : vm_C D κ base b adS adV L xs p s m args meth c r) (ho : vm_nm[o]? = some r.1) (hcl : r.2.1.cls = r.1) (hdg : decode r.2.2.1 pc = .ok (.ishr, len)) (hlen : len = vm_len .ishr len)
    (hch : vm_chk o (pc, .ishr, len, a, bb, cn) = true) (hd : d ≤ R.frames ∧ 40 * d + 20 ≤ R.locals)
    (hs : vm_step d r (pc, .ishr, len, a, bb, cn) ls st w = some (pc', ls', st', w')) (hn : n0 ≤ w.1 ∧ k0 ≤ w.2.1) (hc : w'.1 ≤ n0 + R.cells ∧ w'.2.1 ≤ k0 + R.slots)
    (kk : ∀ lsr' H' locs', vm_LV (vm_r base b adS) lsr' r.2.2.2.1 ls' → vm_T D κ base b adS L xs s.heap w' H' locs' → W p l e R s m args below meth c H' locs' (w'.1 - n0) (w'.2.1 - k0) Q (F0 m pc' lsr' (st'.map (vm_v (vm_r base b adS)))))
    (hL : vm_LV (vm_r base b adS) lsr r.2.2.2.1 ls) (hT : vm_T D κ base b adS L xs s.heap w H locs) :
    W p l e R s m args below meth c H locs (w.1 - n0) (w.2.1 - k0) Q (F0 m pc lsr (st.map (vm_v (vm_r base b adS)))) := by
  have CC := C
  obtain ⟨hx, hb, hml, hown, hts, hK, hAO, hN, hnm, hret, hlk, hX, hbb, hSI⟩ := C
  have hw1 : w.1 ≤ 1000 := hT.1.2.1
  unfold vm_chk at hch
  rw [Bool.and_eq_true] at hch
  replace hch := hch.2
  cases (show len = 1 from hlen)
  obtain ⟨x, y, z, st0, rfl, e2, rfl, rfl, rfl, rfl⟩ := vm_bin_i (show vm_bin pc ls st w (fun x y => some (x >>> (y &&& 31))) = some (pc', ls', st', w') from hs)
  cases e2
  exact lv_ishr hx hb hdg (kk _ _ _ hL hT)
set_option maxHeartbeats 1000000 in
theorem vm_s_ladd  {pc len a bb cn o : Nat} (C : vm_C D κ base b adS adV L xs p s m args meth c r) (ho : vm_nm[o]? = some r.1) (hcl : r.2.1.cls = r.1) (hdg : decode r.2.2.1 pc = .ok (.ladd, len)) (hlen : len = vm_len .ladd len)
    (hch : vm_chk o (pc, .ladd, len, a, bb, cn) = true) (hd : d ≤ R.frames ∧ 40 * d + 20 ≤ R.locals)
    (hs : vm_step d r (pc, .ladd, len, a, bb, cn) ls st w = some (pc', ls', st', w')) (hn : n0 ≤ w.1 ∧ k0 ≤ w.2.1) (hc : w'.1 ≤ n0 + R.cells ∧ w'.2.1 ≤ k0 + R.slots)
    (kk : ∀ lsr' H' locs', vm_LV (vm_r base b adS) lsr' r.2.2.2.1 ls' → vm_T D κ base b adS L xs s.heap w' H' locs' → W p l e R s m args below meth c H' locs' (w'.1 - n0) (w'.2.1 - k0) Q (F0 m pc' lsr' (st'.map (vm_v (vm_r base b adS)))))
    (hL : vm_LV (vm_r base b adS) lsr r.2.2.2.1 ls) (hT : vm_T D κ base b adS L xs s.heap w H locs) :
    W p l e R s m args below meth c H locs (w.1 - n0) (w.2.1 - k0) Q (F0 m pc lsr (st.map (vm_v (vm_r base b adS)))) := by
  have CC := C
  obtain ⟨hx, hb, hml, hown, hts, hK, hAO, hN, hnm, hret, hlk, hX, hbb, hSI⟩ := C
  have hw1 : w.1 ≤ 1000 := hT.1.2.1
  unfold vm_chk at hch
  rw [Bool.and_eq_true] at hch
  replace hch := hch.2
  cases (show len = 1 from hlen)
  obtain ⟨x, y, z, st0, rfl, e2, rfl, rfl, rfl, rfl⟩ := vm_lbin_i (show vm_lbin pc ls st w (fun x y => some (.long (x + y))) = some (pc', ls', st', w') from hs)
  cases e2
  exact lv_ladd hx hb hdg (kk _ _ _ hL hT)
set_option maxHeartbeats 1000000 in
theorem vm_s_lmul  {pc len a bb cn o : Nat} (C : vm_C D κ base b adS adV L xs p s m args meth c r) (ho : vm_nm[o]? = some r.1) (hcl : r.2.1.cls = r.1) (hdg : decode r.2.2.1 pc = .ok (.lmul, len)) (hlen : len = vm_len .lmul len)
    (hch : vm_chk o (pc, .lmul, len, a, bb, cn) = true) (hd : d ≤ R.frames ∧ 40 * d + 20 ≤ R.locals)
    (hs : vm_step d r (pc, .lmul, len, a, bb, cn) ls st w = some (pc', ls', st', w')) (hn : n0 ≤ w.1 ∧ k0 ≤ w.2.1) (hc : w'.1 ≤ n0 + R.cells ∧ w'.2.1 ≤ k0 + R.slots)
    (kk : ∀ lsr' H' locs', vm_LV (vm_r base b adS) lsr' r.2.2.2.1 ls' → vm_T D κ base b adS L xs s.heap w' H' locs' → W p l e R s m args below meth c H' locs' (w'.1 - n0) (w'.2.1 - k0) Q (F0 m pc' lsr' (st'.map (vm_v (vm_r base b adS)))))
    (hL : vm_LV (vm_r base b adS) lsr r.2.2.2.1 ls) (hT : vm_T D κ base b adS L xs s.heap w H locs) :
    W p l e R s m args below meth c H locs (w.1 - n0) (w.2.1 - k0) Q (F0 m pc lsr (st.map (vm_v (vm_r base b adS)))) := by
  have CC := C
  obtain ⟨hx, hb, hml, hown, hts, hK, hAO, hN, hnm, hret, hlk, hX, hbb, hSI⟩ := C
  have hw1 : w.1 ≤ 1000 := hT.1.2.1
  unfold vm_chk at hch
  rw [Bool.and_eq_true] at hch
  replace hch := hch.2
  cases (show len = 1 from hlen)
  obtain ⟨x, y, z, st0, rfl, e2, rfl, rfl, rfl, rfl⟩ := vm_lbin_i (show vm_lbin pc ls st w (fun x y => some (.long (x * y))) = some (pc', ls', st', w') from hs)
  cases e2
  exact lv_lmul hx hb hdg (kk _ _ _ hL hT)
set_option maxHeartbeats 1000000 in
theorem vm_s_ldiv  {pc len a bb cn o : Nat} (C : vm_C D κ base b adS adV L xs p s m args meth c r) (ho : vm_nm[o]? = some r.1) (hcl : r.2.1.cls = r.1) (hdg : decode r.2.2.1 pc = .ok (.ldiv, len)) (hlen : len = vm_len .ldiv len)
    (hch : vm_chk o (pc, .ldiv, len, a, bb, cn) = true) (hd : d ≤ R.frames ∧ 40 * d + 20 ≤ R.locals)
    (hs : vm_step d r (pc, .ldiv, len, a, bb, cn) ls st w = some (pc', ls', st', w')) (hn : n0 ≤ w.1 ∧ k0 ≤ w.2.1) (hc : w'.1 ≤ n0 + R.cells ∧ w'.2.1 ≤ k0 + R.slots)
    (kk : ∀ lsr' H' locs', vm_LV (vm_r base b adS) lsr' r.2.2.2.1 ls' → vm_T D κ base b adS L xs s.heap w' H' locs' → W p l e R s m args below meth c H' locs' (w'.1 - n0) (w'.2.1 - k0) Q (F0 m pc' lsr' (st'.map (vm_v (vm_r base b adS)))))
    (hL : vm_LV (vm_r base b adS) lsr r.2.2.2.1 ls) (hT : vm_T D κ base b adS L xs s.heap w H locs) :
    W p l e R s m args below meth c H locs (w.1 - n0) (w.2.1 - k0) Q (F0 m pc lsr (st.map (vm_v (vm_r base b adS)))) := by
  have CC := C
  obtain ⟨hx, hb, hml, hown, hts, hK, hAO, hN, hnm, hret, hlk, hX, hbb, hSI⟩ := C
  have hw1 : w.1 ≤ 1000 := hT.1.2.1
  unfold vm_chk at hch
  rw [Bool.and_eq_true] at hch
  replace hch := hch.2
  cases (show len = 1 from hlen)
  obtain ⟨x, y, z, st0, rfl, e2, rfl, rfl, rfl, rfl⟩ := vm_lbin_i (show vm_lbin pc ls st w (fun x y => if y = 0 then none else some (.long (x / y))) = some (pc', ls', st', w') from hs)
  by_cases hy : y = 0
  · rw [if_pos hy] at e2; cases e2
  · rw [if_neg hy] at e2
    cases e2
    exact lv_ldiv hx hb hdg hy (kk _ _ _ hL hT)
set_option maxHeartbeats 1000000 in
theorem vm_s_lrem  {pc len a bb cn o : Nat} (C : vm_C D κ base b adS adV L xs p s m args meth c r) (ho : vm_nm[o]? = some r.1) (hcl : r.2.1.cls = r.1) (hdg : decode r.2.2.1 pc = .ok (.lrem, len)) (hlen : len = vm_len .lrem len)
    (hch : vm_chk o (pc, .lrem, len, a, bb, cn) = true) (hd : d ≤ R.frames ∧ 40 * d + 20 ≤ R.locals)
    (hs : vm_step d r (pc, .lrem, len, a, bb, cn) ls st w = some (pc', ls', st', w')) (hn : n0 ≤ w.1 ∧ k0 ≤ w.2.1) (hc : w'.1 ≤ n0 + R.cells ∧ w'.2.1 ≤ k0 + R.slots)
    (kk : ∀ lsr' H' locs', vm_LV (vm_r base b adS) lsr' r.2.2.2.1 ls' → vm_T D κ base b adS L xs s.heap w' H' locs' → W p l e R s m args below meth c H' locs' (w'.1 - n0) (w'.2.1 - k0) Q (F0 m pc' lsr' (st'.map (vm_v (vm_r base b adS)))))
    (hL : vm_LV (vm_r base b adS) lsr r.2.2.2.1 ls) (hT : vm_T D κ base b adS L xs s.heap w H locs) :
    W p l e R s m args below meth c H locs (w.1 - n0) (w.2.1 - k0) Q (F0 m pc lsr (st.map (vm_v (vm_r base b adS)))) := by
  have CC := C
  obtain ⟨hx, hb, hml, hown, hts, hK, hAO, hN, hnm, hret, hlk, hX, hbb, hSI⟩ := C
  have hw1 : w.1 ≤ 1000 := hT.1.2.1
  unfold vm_chk at hch
  rw [Bool.and_eq_true] at hch
  replace hch := hch.2
  cases (show len = 1 from hlen)
  obtain ⟨x, y, z, st0, rfl, e2, rfl, rfl, rfl, rfl⟩ := vm_lbin_i (show vm_lbin pc ls st w (fun x y => if y = 0 then none else some (.long (x - x / y * y))) = some (pc', ls', st', w') from hs)
  by_cases hy : y = 0
  · rw [if_pos hy] at e2; cases e2
  · rw [if_neg hy] at e2
    cases e2
    exact lv_lrem hx hb hdg hy (kk _ _ _ hL hT)
set_option maxHeartbeats 1000000 in
theorem vm_s_lcmp  {pc len a bb cn o : Nat} (C : vm_C D κ base b adS adV L xs p s m args meth c r) (ho : vm_nm[o]? = some r.1) (hcl : r.2.1.cls = r.1) (hdg : decode r.2.2.1 pc = .ok (.lcmp, len)) (hlen : len = vm_len .lcmp len)
    (hch : vm_chk o (pc, .lcmp, len, a, bb, cn) = true) (hd : d ≤ R.frames ∧ 40 * d + 20 ≤ R.locals)
    (hs : vm_step d r (pc, .lcmp, len, a, bb, cn) ls st w = some (pc', ls', st', w')) (hn : n0 ≤ w.1 ∧ k0 ≤ w.2.1) (hc : w'.1 ≤ n0 + R.cells ∧ w'.2.1 ≤ k0 + R.slots)
    (kk : ∀ lsr' H' locs', vm_LV (vm_r base b adS) lsr' r.2.2.2.1 ls' → vm_T D κ base b adS L xs s.heap w' H' locs' → W p l e R s m args below meth c H' locs' (w'.1 - n0) (w'.2.1 - k0) Q (F0 m pc' lsr' (st'.map (vm_v (vm_r base b adS)))))
    (hL : vm_LV (vm_r base b adS) lsr r.2.2.2.1 ls) (hT : vm_T D κ base b adS L xs s.heap w H locs) :
    W p l e R s m args below meth c H locs (w.1 - n0) (w.2.1 - k0) Q (F0 m pc lsr (st.map (vm_v (vm_r base b adS)))) := by
  have CC := C
  obtain ⟨hx, hb, hml, hown, hts, hK, hAO, hN, hnm, hret, hlk, hX, hbb, hSI⟩ := C
  have hw1 : w.1 ≤ 1000 := hT.1.2.1
  unfold vm_chk at hch
  rw [Bool.and_eq_true] at hch
  replace hch := hch.2
  cases (show len = 1 from hlen)
  obtain ⟨x, y, z, st0, rfl, e2, rfl, rfl, rfl, rfl⟩ := vm_lbin_i (show vm_lbin pc ls st w (fun x y => some (.int (lg_cmp x y))) = some (pc', ls', st', w') from hs)
  cases e2
  exact W.lcmp hx hb hdg (kk _ _ _ hL hT)
set_option maxHeartbeats 1000000 in
theorem vm_s_i2l  {pc len a bb cn o : Nat} (C : vm_C D κ base b adS adV L xs p s m args meth c r) (ho : vm_nm[o]? = some r.1) (hcl : r.2.1.cls = r.1) (hdg : decode r.2.2.1 pc = .ok (.i2l, len)) (hlen : len = vm_len .i2l len)
    (hch : vm_chk o (pc, .i2l, len, a, bb, cn) = true) (hd : d ≤ R.frames ∧ 40 * d + 20 ≤ R.locals)
    (hs : vm_step d r (pc, .i2l, len, a, bb, cn) ls st w = some (pc', ls', st', w')) (hn : n0 ≤ w.1 ∧ k0 ≤ w.2.1) (hc : w'.1 ≤ n0 + R.cells ∧ w'.2.1 ≤ k0 + R.slots)
    (kk : ∀ lsr' H' locs', vm_LV (vm_r base b adS) lsr' r.2.2.2.1 ls' → vm_T D κ base b adS L xs s.heap w' H' locs' → W p l e R s m args below meth c H' locs' (w'.1 - n0) (w'.2.1 - k0) Q (F0 m pc' lsr' (st'.map (vm_v (vm_r base b adS)))))
    (hL : vm_LV (vm_r base b adS) lsr r.2.2.2.1 ls) (hT : vm_T D κ base b adS L xs s.heap w H locs) :
    W p l e R s m args below meth c H locs (w.1 - n0) (w.2.1 - k0) Q (F0 m pc lsr (st.map (vm_v (vm_r base b adS)))) := by
  have CC := C
  obtain ⟨hx, hb, hml, hown, hts, hK, hAO, hN, hnm, hret, hlk, hX, hbb, hSI⟩ := C
  have hw1 : w.1 ≤ 1000 := hT.1.2.1
  unfold vm_chk at hch
  rw [Bool.and_eq_true] at hch
  replace hch := hch.2
  cases (show len = 1 from hlen)
  obtain ⟨x, st0, rfl, rfl, rfl, rfl, rfl⟩ := vm_i2l_i (show vm_i2l pc ls st w = some (pc', ls', st', w') from hs)
  exact lv_i2l hx hb hdg rfl (kk _ _ _ hL hT)
set_option maxHeartbeats 1000000 in
theorem vm_s_l2i  {pc len a bb cn o : Nat} (C : vm_C D κ base b adS adV L xs p s m args meth c r) (ho : vm_nm[o]? = some r.1) (hcl : r.2.1.cls = r.1) (hdg : decode r.2.2.1 pc = .ok (.l2i, len)) (hlen : len = vm_len .l2i len)
    (hch : vm_chk o (pc, .l2i, len, a, bb, cn) = true) (hd : d ≤ R.frames ∧ 40 * d + 20 ≤ R.locals)
    (hs : vm_step d r (pc, .l2i, len, a, bb, cn) ls st w = some (pc', ls', st', w')) (hn : n0 ≤ w.1 ∧ k0 ≤ w.2.1) (hc : w'.1 ≤ n0 + R.cells ∧ w'.2.1 ≤ k0 + R.slots)
    (kk : ∀ lsr' H' locs', vm_LV (vm_r base b adS) lsr' r.2.2.2.1 ls' → vm_T D κ base b adS L xs s.heap w' H' locs' → W p l e R s m args below meth c H' locs' (w'.1 - n0) (w'.2.1 - k0) Q (F0 m pc' lsr' (st'.map (vm_v (vm_r base b adS)))))
    (hL : vm_LV (vm_r base b adS) lsr r.2.2.2.1 ls) (hT : vm_T D κ base b adS L xs s.heap w H locs) :
    W p l e R s m args below meth c H locs (w.1 - n0) (w.2.1 - k0) Q (F0 m pc lsr (st.map (vm_v (vm_r base b adS)))) := by
  have CC := C
  obtain ⟨hx, hb, hml, hown, hts, hK, hAO, hN, hnm, hret, hlk, hX, hbb, hSI⟩ := C
  have hw1 : w.1 ≤ 1000 := hT.1.2.1
  unfold vm_chk at hch
  rw [Bool.and_eq_true] at hch
  replace hch := hch.2
  cases (show len = 1 from hlen)
  obtain ⟨x, st0, rfl, rfl, rfl, rfl, rfl⟩ := vm_l2i_i (show vm_l2i pc ls st w = some (pc', ls', st', w') from hs)
  exact lv_l2i hx hb hdg rfl (kk _ _ _ hL hT)
set_option maxHeartbeats 1000000 in
theorem vm_s_dup  {pc len a bb cn o : Nat} (C : vm_C D κ base b adS adV L xs p s m args meth c r) (ho : vm_nm[o]? = some r.1) (hcl : r.2.1.cls = r.1) (hdg : decode r.2.2.1 pc = .ok (.dup, len)) (hlen : len = vm_len .dup len)
    (hch : vm_chk o (pc, .dup, len, a, bb, cn) = true) (hd : d ≤ R.frames ∧ 40 * d + 20 ≤ R.locals)
    (hs : vm_step d r (pc, .dup, len, a, bb, cn) ls st w = some (pc', ls', st', w')) (hn : n0 ≤ w.1 ∧ k0 ≤ w.2.1) (hc : w'.1 ≤ n0 + R.cells ∧ w'.2.1 ≤ k0 + R.slots)
    (kk : ∀ lsr' H' locs', vm_LV (vm_r base b adS) lsr' r.2.2.2.1 ls' → vm_T D κ base b adS L xs s.heap w' H' locs' → W p l e R s m args below meth c H' locs' (w'.1 - n0) (w'.2.1 - k0) Q (F0 m pc' lsr' (st'.map (vm_v (vm_r base b adS)))))
    (hL : vm_LV (vm_r base b adS) lsr r.2.2.2.1 ls) (hT : vm_T D κ base b adS L xs s.heap w H locs) :
    W p l e R s m args below meth c H locs (w.1 - n0) (w.2.1 - k0) Q (F0 m pc lsr (st.map (vm_v (vm_r base b adS)))) := by
  have CC := C
  obtain ⟨hx, hb, hml, hown, hts, hK, hAO, hN, hnm, hret, hlk, hX, hbb, hSI⟩ := C
  have hw1 : w.1 ≤ 1000 := hT.1.2.1
  unfold vm_chk at hch
  rw [Bool.and_eq_true] at hch
  replace hch := hch.2
  cases (show len = 1 from hlen)
  obtain ⟨va, st0, rfl, e2, rfl, rfl, rfl, rfl⟩ := vm_dup_i (show vm_dup pc ls st w = some (pc', ls', st', w') from hs)
  exact lv_dup hx hb hdg ((vm_v_cat _ _).trans e2) (kk _ _ _ hL hT)
set_option maxHeartbeats 1000000 in
theorem vm_s_pop  {pc len a bb cn o : Nat} (C : vm_C D κ base b adS adV L xs p s m args meth c r) (ho : vm_nm[o]? = some r.1) (hcl : r.2.1.cls = r.1) (hdg : decode r.2.2.1 pc = .ok (.pop, len)) (hlen : len = vm_len .pop len)
    (hch : vm_chk o (pc, .pop, len, a, bb, cn) = true) (hd : d ≤ R.frames ∧ 40 * d + 20 ≤ R.locals)
    (hs : vm_step d r (pc, .pop, len, a, bb, cn) ls st w = some (pc', ls', st', w')) (hn : n0 ≤ w.1 ∧ k0 ≤ w.2.1) (hc : w'.1 ≤ n0 + R.cells ∧ w'.2.1 ≤ k0 + R.slots)
    (kk : ∀ lsr' H' locs', vm_LV (vm_r base b adS) lsr' r.2.2.2.1 ls' → vm_T D κ base b adS L xs s.heap w' H' locs' → W p l e R s m args below meth c H' locs' (w'.1 - n0) (w'.2.1 - k0) Q (F0 m pc' lsr' (st'.map (vm_v (vm_r base b adS)))))
    (hL : vm_LV (vm_r base b adS) lsr r.2.2.2.1 ls) (hT : vm_T D κ base b adS L xs s.heap w H locs) :
    W p l e R s m args below meth c H locs (w.1 - n0) (w.2.1 - k0) Q (F0 m pc lsr (st.map (vm_v (vm_r base b adS)))) := by
  have CC := C
  obtain ⟨hx, hb, hml, hown, hts, hK, hAO, hN, hnm, hret, hlk, hX, hbb, hSI⟩ := C
  have hw1 : w.1 ≤ 1000 := hT.1.2.1
  unfold vm_chk at hch
  rw [Bool.and_eq_true] at hch
  replace hch := hch.2
  cases (show len = 1 from hlen)
  obtain ⟨va, st0, rfl, e2, rfl, rfl, rfl, rfl⟩ := vm_pop_i (show vm_pop pc ls st w = some (pc', ls', st', w') from hs)
  exact lv_pop hx hb hdg ((vm_v_cat _ _).trans e2) (kk _ _ _ hL hT)
set_option maxHeartbeats 1000000 in
theorem vm_s_dup2  {pc len a bb cn o : Nat} (C : vm_C D κ base b adS adV L xs p s m args meth c r) (ho : vm_nm[o]? = some r.1) (hcl : r.2.1.cls = r.1) (hdg : decode r.2.2.1 pc = .ok (.dup2, len)) (hlen : len = vm_len .dup2 len)
    (hch : vm_chk o (pc, .dup2, len, a, bb, cn) = true) (hd : d ≤ R.frames ∧ 40 * d + 20 ≤ R.locals)
    (hs : vm_step d r (pc, .dup2, len, a, bb, cn) ls st w = some (pc', ls', st', w')) (hn : n0 ≤ w.1 ∧ k0 ≤ w.2.1) (hc : w'.1 ≤ n0 + R.cells ∧ w'.2.1 ≤ k0 + R.slots)
    (kk : ∀ lsr' H' locs', vm_LV (vm_r base b adS) lsr' r.2.2.2.1 ls' → vm_T D κ base b adS L xs s.heap w' H' locs' → W p l e R s m args below meth c H' locs' (w'.1 - n0) (w'.2.1 - k0) Q (F0 m pc' lsr' (st'.map (vm_v (vm_r base b adS)))))
    (hL : vm_LV (vm_r base b adS) lsr r.2.2.2.1 ls) (hT : vm_T D κ base b adS L xs s.heap w H locs) :
    W p l e R s m args below meth c H locs (w.1 - n0) (w.2.1 - k0) Q (F0 m pc lsr (st.map (vm_v (vm_r base b adS)))) := by
  have CC := C
  obtain ⟨hx, hb, hml, hown, hts, hK, hAO, hN, hnm, hret, hlk, hX, hbb, hSI⟩ := C
  have hw1 : w.1 ≤ 1000 := hT.1.2.1
  unfold vm_chk at hch
  rw [Bool.and_eq_true] at hch
  replace hch := hch.2
  cases (show len = 1 from hlen)
  obtain ⟨va, vb, st0, rfl, e2, e3, rfl, rfl, rfl, rfl⟩ := vm_dup2_i (show vm_dup2 pc ls st w = some (pc', ls', st', w') from hs)
  exact lv_dup2_11 hx hb hdg ((vm_v_cat _ _).trans e2) ((vm_v_cat _ _).trans e3) (kk _ _ _ hL hT)
set_option maxHeartbeats 1000000 in
theorem vm_s_goto (off : Int) {pc len a bb cn o : Nat} (C : vm_C D κ base b adS adV L xs p s m args meth c r) (ho : vm_nm[o]? = some r.1) (hcl : r.2.1.cls = r.1) (hdg : decode r.2.2.1 pc = .ok ((.goto off), len)) (hlen : len = vm_len (.goto off) len)
    (hch : vm_chk o (pc, (.goto off), len, a, bb, cn) = true) (hd : d ≤ R.frames ∧ 40 * d + 20 ≤ R.locals)
    (hs : vm_step d r (pc, (.goto off), len, a, bb, cn) ls st w = some (pc', ls', st', w')) (hn : n0 ≤ w.1 ∧ k0 ≤ w.2.1) (hc : w'.1 ≤ n0 + R.cells ∧ w'.2.1 ≤ k0 + R.slots)
    (kk : ∀ lsr' H' locs', vm_LV (vm_r base b adS) lsr' r.2.2.2.1 ls' → vm_T D κ base b adS L xs s.heap w' H' locs' → W p l e R s m args below meth c H' locs' (w'.1 - n0) (w'.2.1 - k0) Q (F0 m pc' lsr' (st'.map (vm_v (vm_r base b adS)))))
    (hL : vm_LV (vm_r base b adS) lsr r.2.2.2.1 ls) (hT : vm_T D κ base b adS L xs s.heap w H locs) :
    W p l e R s m args below meth c H locs (w.1 - n0) (w.2.1 - k0) Q (F0 m pc lsr (st.map (vm_v (vm_r base b adS)))) := by
  have CC := C
  obtain ⟨hx, hb, hml, hown, hts, hK, hAO, hN, hnm, hret, hlk, hX, hbb, hSI⟩ := C
  have hw1 : w.1 ≤ 1000 := hT.1.2.1
  unfold vm_chk at hch
  rw [Bool.and_eq_true] at hch
  replace hch := hch.2
  cases (show len = 3 from hlen)
  obtain ⟨e1, rfl, rfl, rfl⟩ := vm_jmp_i (show vm_jmp pc off ls st w = some (pc', ls', st', w') from hs)
  exact lv_goto hx hb hdg e1 (kk _ _ _ hL hT)
set_option maxHeartbeats 1000000 in
theorem vm_s_ifCond (cd : Jvm.ClassFile.Cond) (off : Int) {pc len a bb cn o : Nat} (C : vm_C D κ base b adS adV L xs p s m args meth c r) (ho : vm_nm[o]? = some r.1) (hcl : r.2.1.cls = r.1) (hdg : decode r.2.2.1 pc = .ok ((.ifCond cd off), len)) (hlen : len = vm_len (.ifCond cd off) len)
    (hch : vm_chk o (pc, (.ifCond cd off), len, a, bb, cn) = true) (hd : d ≤ R.frames ∧ 40 * d + 20 ≤ R.locals)
    (hs : vm_step d r (pc, (.ifCond cd off), len, a, bb, cn) ls st w = some (pc', ls', st', w')) (hn : n0 ≤ w.1 ∧ k0 ≤ w.2.1) (hc : w'.1 ≤ n0 + R.cells ∧ w'.2.1 ≤ k0 + R.slots)
    (kk : ∀ lsr' H' locs', vm_LV (vm_r base b adS) lsr' r.2.2.2.1 ls' → vm_T D κ base b adS L xs s.heap w' H' locs' → W p l e R s m args below meth c H' locs' (w'.1 - n0) (w'.2.1 - k0) Q (F0 m pc' lsr' (st'.map (vm_v (vm_r base b adS)))))
    (hL : vm_LV (vm_r base b adS) lsr r.2.2.2.1 ls) (hT : vm_T D κ base b adS L xs s.heap w H locs) :
    W p l e R s m args below meth c H locs (w.1 - n0) (w.2.1 - k0) Q (F0 m pc lsr (st.map (vm_v (vm_r base b adS)))) := by
  have CC := C
  obtain ⟨hx, hb, hml, hown, hts, hK, hAO, hN, hnm, hret, hlk, hX, hbb, hSI⟩ := C
  have hw1 : w.1 ≤ 1000 := hT.1.2.1
  unfold vm_chk at hch
  rw [Bool.and_eq_true] at hch
  replace hch := hch.2
  cases (show len = 3 from hlen)
  obtain ⟨x, st0, tgt, rfl, e1, e2, rfl, rfl, rfl⟩ := vm_if0_i (show vm_if0 cd pc off ls st w = some (pc', ls', st', w') from hs)
  refine vm_cmp0_W hx hb hdg e1 ⟨fun h => ?_, fun h => ?_⟩
  · rcases e2 with ⟨-, rfl⟩ | ⟨g, -⟩
    · exact kk _ _ _ hL hT
    · exact absurd h g
  · rcases e2 with ⟨g, -⟩ | ⟨-, rfl⟩
    · exact absurd g h
    · exact kk _ _ _ hL hT
set_option maxHeartbeats 1000000 in
theorem vm_s_if_icmp (cd : Jvm.ClassFile.Cond) (off : Int) {pc len a bb cn o : Nat} (C : vm_C D κ base b adS adV L xs p s m args meth c r) (ho : vm_nm[o]? = some r.1) (hcl : r.2.1.cls = r.1) (hdg : decode r.2.2.1 pc = .ok ((.if_icmp cd off), len)) (hlen : len = vm_len (.if_icmp cd off) len)
    (hch : vm_chk o (pc, (.if_icmp cd off), len, a, bb, cn) = true) (hd : d ≤ R.frames ∧ 40 * d + 20 ≤ R.locals)
    (hs : vm_step d r (pc, (.if_icmp cd off), len, a, bb, cn) ls st w = some (pc', ls', st', w')) (hn : n0 ≤ w.1 ∧ k0 ≤ w.2.1) (hc : w'.1 ≤ n0 + R.cells ∧ w'.2.1 ≤ k0 + R.slots)
    (kk : ∀ lsr' H' locs', vm_LV (vm_r base b adS) lsr' r.2.2.2.1 ls' → vm_T D κ base b adS L xs s.heap w' H' locs' → W p l e R s m args below meth c H' locs' (w'.1 - n0) (w'.2.1 - k0) Q (F0 m pc' lsr' (st'.map (vm_v (vm_r base b adS)))))
    (hL : vm_LV (vm_r base b adS) lsr r.2.2.2.1 ls) (hT : vm_T D κ base b adS L xs s.heap w H locs) :
    W p l e R s m args below meth c H locs (w.1 - n0) (w.2.1 - k0) Q (F0 m pc lsr (st.map (vm_v (vm_r base b adS)))) := by
  have CC := C
  obtain ⟨hx, hb, hml, hown, hts, hK, hAO, hN, hnm, hret, hlk, hX, hbb, hSI⟩ := C
  have hw1 : w.1 ≤ 1000 := hT.1.2.1
  unfold vm_chk at hch
  rw [Bool.and_eq_true] at hch
  replace hch := hch.2
  cases (show len = 3 from hlen)
  obtain ⟨x, y, st0, tgt, rfl, e1, e2, rfl, rfl, rfl⟩ := vm_if2_i (show vm_if2 cd pc off ls st w = some (pc', ls', st', w') from hs)
  refine vm_cmp2_W hx hb hdg e1 ⟨fun h => ?_, fun h => ?_⟩
  · rcases e2 with ⟨-, rfl⟩ | ⟨g, -⟩
    · exact kk _ _ _ hL hT
    · exact absurd h g
  · rcases e2 with ⟨g, -⟩ | ⟨-, rfl⟩
    · exact absurd g h
    · exact kk _ _ _ hL hT
set_option maxHeartbeats 1000000 in
theorem vm_s_ifnull (off : Int) {pc len a bb cn o : Nat} (C : vm_C D κ base b adS adV L xs p s m args meth c r) (ho : vm_nm[o]? = some r.1) (hcl : r.2.1.cls = r.1) (hdg : decode r.2.2.1 pc = .ok ((.ifnull off), len)) (hlen : len = vm_len (.ifnull off) len)
    (hch : vm_chk o (pc, (.ifnull off), len, a, bb, cn) = true) (hd : d ≤ R.frames ∧ 40 * d + 20 ≤ R.locals)
    (hs : vm_step d r (pc, (.ifnull off), len, a, bb, cn) ls st w = some (pc', ls', st', w')) (hn : n0 ≤ w.1 ∧ k0 ≤ w.2.1) (hc : w'.1 ≤ n0 + R.cells ∧ w'.2.1 ≤ k0 + R.slots)
    (kk : ∀ lsr' H' locs', vm_LV (vm_r base b adS) lsr' r.2.2.2.1 ls' → vm_T D κ base b adS L xs s.heap w' H' locs' → W p l e R s m args below meth c H' locs' (w'.1 - n0) (w'.2.1 - k0) Q (F0 m pc' lsr' (st'.map (vm_v (vm_r base b adS)))))
    (hL : vm_LV (vm_r base b adS) lsr r.2.2.2.1 ls) (hT : vm_T D κ base b adS L xs s.heap w H locs) :
    W p l e R s m args below meth c H locs (w.1 - n0) (w.2.1 - k0) Q (F0 m pc lsr (st.map (vm_v (vm_r base b adS)))) := by
  have CC := C
  obtain ⟨hx, hb, hml, hown, hts, hK, hAO, hN, hnm, hret, hlk, hX, hbb, hSI⟩ := C
  have hw1 : w.1 ≤ 1000 := hT.1.2.1
  unfold vm_chk at hch
  rw [Bool.and_eq_true] at hch
  replace hch := hch.2
  cases (show len = 3 from hlen)
  obtain ⟨x, st0, tgt, rfl, e1, e2, rfl, rfl, rfl⟩ := vm_ifn_i (show vm_ifn false pc off ls st w = some (pc', ls', st', w') from hs)
  rw [if_neg (by decide)] at e2
  subst e2
  exact lv_ifnull hx hb hdg (kk _ _ _ hL hT)
set_option maxHeartbeats 1000000 in
theorem vm_s_ifnonnull (off : Int) {pc len a bb cn o : Nat} (C : vm_C D κ base b adS adV L xs p s m args meth c r) (ho : vm_nm[o]? = some r.1) (hcl : r.2.1.cls = r.1) (hdg : decode r.2.2.1 pc = .ok ((.ifnonnull off), len)) (hlen : len = vm_len (.ifnonnull off) len)
    (hch : vm_chk o (pc, (.ifnonnull off), len, a, bb, cn) = true) (hd : d ≤ R.frames ∧ 40 * d + 20 ≤ R.locals)
    (hs : vm_step d r (pc, (.ifnonnull off), len, a, bb, cn) ls st w = some (pc', ls', st', w')) (hn : n0 ≤ w.1 ∧ k0 ≤ w.2.1) (hc : w'.1 ≤ n0 + R.cells ∧ w'.2.1 ≤ k0 + R.slots)
    (kk : ∀ lsr' H' locs', vm_LV (vm_r base b adS) lsr' r.2.2.2.1 ls' → vm_T D κ base b adS L xs s.heap w' H' locs' → W p l e R s m args below meth c H' locs' (w'.1 - n0) (w'.2.1 - k0) Q (F0 m pc' lsr' (st'.map (vm_v (vm_r base b adS)))))
    (hL : vm_LV (vm_r base b adS) lsr r.2.2.2.1 ls) (hT : vm_T D κ base b adS L xs s.heap w H locs) :
    W p l e R s m args below meth c H locs (w.1 - n0) (w.2.1 - k0) Q (F0 m pc lsr (st.map (vm_v (vm_r base b adS)))) := by
  have CC := C
  obtain ⟨hx, hb, hml, hown, hts, hK, hAO, hN, hnm, hret, hlk, hX, hbb, hSI⟩ := C
  have hw1 : w.1 ≤ 1000 := hT.1.2.1
  unfold vm_chk at hch
  rw [Bool.and_eq_true] at hch
  replace hch := hch.2
  cases (show len = 3 from hlen)
  obtain ⟨x, st0, tgt, rfl, e1, e2, rfl, rfl, rfl⟩ := vm_ifn_i (show vm_ifn true pc off ls st w = some (pc', ls', st', w') from hs)
  rw [if_pos rfl] at e2
  subst e2
  exact lv_ifnonnull hx hb hdg e1 (kk _ _ _ hL hT)
set_option maxHeartbeats 1000000 in
theorem vm_s_tableswitch (dd lo hi : Int) (os : Array Int) {pc len a bb cn o : Nat} (C : vm_C D κ base b adS adV L xs p s m args meth c r) (ho : vm_nm[o]? = some r.1) (hcl : r.2.1.cls = r.1) (hdg : decode r.2.2.1 pc = .ok ((.tableswitch dd lo hi os), len)) (hlen : len = vm_len (.tableswitch dd lo hi os) len)
    (hch : vm_chk o (pc, (.tableswitch dd lo hi os), len, a, bb, cn) = true) (hd : d ≤ R.frames ∧ 40 * d + 20 ≤ R.locals)
    (hs : vm_step d r (pc, (.tableswitch dd lo hi os), len, a, bb, cn) ls st w = some (pc', ls', st', w')) (hn : n0 ≤ w.1 ∧ k0 ≤ w.2.1) (hc : w'.1 ≤ n0 + R.cells ∧ w'.2.1 ≤ k0 + R.slots)
    (kk : ∀ lsr' H' locs', vm_LV (vm_r base b adS) lsr' r.2.2.2.1 ls' → vm_T D κ base b adS L xs s.heap w' H' locs' → W p l e R s m args below meth c H' locs' (w'.1 - n0) (w'.2.1 - k0) Q (F0 m pc' lsr' (st'.map (vm_v (vm_r base b adS)))))
    (hL : vm_LV (vm_r base b adS) lsr r.2.2.2.1 ls) (hT : vm_T D κ base b adS L xs s.heap w H locs) :
    W p l e R s m args below meth c H locs (w.1 - n0) (w.2.1 - k0) Q (F0 m pc lsr (st.map (vm_v (vm_r base b adS)))) := by
  have CC := C
  obtain ⟨hx, hb, hml, hown, hts, hK, hAO, hN, hnm, hret, hlk, hX, hbb, hSI⟩ := C
  have hw1 : w.1 ≤ 1000 := hT.1.2.1
  unfold vm_chk at hch
  rw [Bool.and_eq_true] at hch
  replace hch := hch.2
  obtain ⟨x, st0, rfl, e1, rfl, rfl, rfl⟩ := vm_tab_i (show vm_tab pc dd lo hi os ls st w = some (pc', ls', st', w') from hs)
  rcases e1 with ⟨h1, h2⟩ | ⟨h1, off, h2, h3⟩
  · exact lv_tableOut hx hb hdg h1 h2 (kk _ _ _ hL hT)
  · exact lv_tableIn hx hb hdg (fun h => h1 (Or.inl h)) (fun h => h1 (Or.inr h)) h2 h3 (kk _ _ _ hL hT)
set_option maxHeartbeats 1000000 in
theorem vm_s_lookupswitch (dd : Int) (ps : Array (Int × Int)) {pc len a bb cn o : Nat} (C : vm_C D κ base b adS adV L xs p s m args meth c r) (ho : vm_nm[o]? = some r.1) (hcl : r.2.1.cls = r.1) (hdg : decode r.2.2.1 pc = .ok ((.lookupswitch dd ps), len)) (hlen : len = vm_len (.lookupswitch dd ps) len)
    (hch : vm_chk o (pc, (.lookupswitch dd ps), len, a, bb, cn) = true) (hd : d ≤ R.frames ∧ 40 * d + 20 ≤ R.locals)
    (hs : vm_step d r (pc, (.lookupswitch dd ps), len, a, bb, cn) ls st w = some (pc', ls', st', w')) (hn : n0 ≤ w.1 ∧ k0 ≤ w.2.1) (hc : w'.1 ≤ n0 + R.cells ∧ w'.2.1 ≤ k0 + R.slots)
    (kk : ∀ lsr' H' locs', vm_LV (vm_r base b adS) lsr' r.2.2.2.1 ls' → vm_T D κ base b adS L xs s.heap w' H' locs' → W p l e R s m args below meth c H' locs' (w'.1 - n0) (w'.2.1 - k0) Q (F0 m pc' lsr' (st'.map (vm_v (vm_r base b adS)))))
    (hL : vm_LV (vm_r base b adS) lsr r.2.2.2.1 ls) (hT : vm_T D κ base b adS L xs s.heap w H locs) :
    W p l e R s m args below meth c H locs (w.1 - n0) (w.2.1 - k0) Q (F0 m pc lsr (st.map (vm_v (vm_r base b adS)))) := by
  have CC := C
  obtain ⟨hx, hb, hml, hown, hts, hK, hAO, hN, hnm, hret, hlk, hX, hbb, hSI⟩ := C
  have hw1 : w.1 ≤ 1000 := hT.1.2.1
  unfold vm_chk at hch
  rw [Bool.and_eq_true] at hch
  replace hch := hch.2
  obtain ⟨x, st0, rfl, e1, e2, rfl, rfl, rfl⟩ := vm_lku_i (show vm_lku pc dd ps ls st w = some (pc', ls', st', w') from hs)
  exact lv_lookup hx hb hdg e1 rfl e2 (kk _ _ _ hL hT)
set_option maxHeartbeats 1000000 in
theorem vm_s_getfield (x : Nat) {pc len a bb cn o : Nat} (C : vm_C D κ base b adS adV L xs p s m args meth c r) (ho : vm_nm[o]? = some r.1) (hcl : r.2.1.cls = r.1) (hdg : decode r.2.2.1 pc = .ok ((.getfield x), len)) (hlen : len = vm_len (.getfield x) len)
    (hch : vm_chk o (pc, (.getfield x), len, a, bb, cn) = true) (hd : d ≤ R.frames ∧ 40 * d + 20 ≤ R.locals)
    (hs : vm_step d r (pc, (.getfield x), len, a, bb, cn) ls st w = some (pc', ls', st', w')) (hn : n0 ≤ w.1 ∧ k0 ≤ w.2.1) (hc : w'.1 ≤ n0 + R.cells ∧ w'.2.1 ≤ k0 + R.slots)
    (kk : ∀ lsr' H' locs', vm_LV (vm_r base b adS) lsr' r.2.2.2.1 ls' → vm_T D κ base b adS L xs s.heap w' H' locs' → W p l e R s m args below meth c H' locs' (w'.1 - n0) (w'.2.1 - k0) Q (F0 m pc' lsr' (st'.map (vm_v (vm_r base b adS)))))
    (hL : vm_LV (vm_r base b adS) lsr r.2.2.2.1 ls) (hT : vm_T D κ base b adS L xs s.heap w H locs) :
    W p l e R s m args below meth c H locs (w.1 - n0) (w.2.1 - k0) Q (F0 m pc lsr (st.map (vm_v (vm_r base b adS)))) := by
  have CC := C
  obtain ⟨hx, hb, hml, hown, hts, hK, hAO, hN, hnm, hret, hlk, hX, hbb, hSI⟩ := C
  have hw1 : w.1 ≤ 1000 := hT.1.2.1
  unfold vm_chk at hch
  rw [Bool.and_eq_true] at hch
  replace hch := hch.2
  cases (show len = 3 from hlen)
  obtain ⟨i, st0, fs, v, rfl, e1, e2, e3, rfl, rfl, rfl, rfl⟩ := vm_get_i (show vm_get a bb pc ls st w = some (pc', ls', st', w') from hs)
  obtain ⟨own, Cn, T, N, g1, g2, g3, g4⟩ := vm_fT_ok _ (of_decide_eq_true (show decide ((o, x, a, bb) ∈ vm_fT) = true from hch))
  cases ho.symm.trans g1
  have ha : a < 11 := (List.getElem?_eq_some_iff.mp g2).1
  obtain ⟨C', T', N', z1, hin, hty, hnms⟩ := vm_clsA a ha
  cases g2.symm.trans z1
  show W p l e R s m args below meth c H locs (w.1 - n0) (w.2.1 - k0) Q (F0 m pc lsr (.ref (vm_r base b adS i) :: st0.map _))
  rw [vm_r_lt (i := i) (Nat.lt_of_lt_of_le e1 hw1)]
  exact va_get hx hb hts hin hown hK (vm_va_at hT.1 e1 e2) 0 rfl g2 bb g3 (hts _ g4) (fun _ h9 => h9) (vm_get_map _ e3) hdg (kk _ _ _ hL hT)
set_option maxHeartbeats 1000000 in
theorem vm_s_putfield (x : Nat) {pc len a bb cn o : Nat} (C : vm_C D κ base b adS adV L xs p s m args meth c r) (ho : vm_nm[o]? = some r.1) (hcl : r.2.1.cls = r.1) (hdg : decode r.2.2.1 pc = .ok ((.putfield x), len)) (hlen : len = vm_len (.putfield x) len)
    (hch : vm_chk o (pc, (.putfield x), len, a, bb, cn) = true) (hd : d ≤ R.frames ∧ 40 * d + 20 ≤ R.locals)
    (hs : vm_step d r (pc, (.putfield x), len, a, bb, cn) ls st w = some (pc', ls', st', w')) (hn : n0 ≤ w.1 ∧ k0 ≤ w.2.1) (hc : w'.1 ≤ n0 + R.cells ∧ w'.2.1 ≤ k0 + R.slots)
    (kk : ∀ lsr' H' locs', vm_LV (vm_r base b adS) lsr' r.2.2.2.1 ls' → vm_T D κ base b adS L xs s.heap w' H' locs' → W p l e R s m args below meth c H' locs' (w'.1 - n0) (w'.2.1 - k0) Q (F0 m pc' lsr' (st'.map (vm_v (vm_r base b adS)))))
    (hL : vm_LV (vm_r base b adS) lsr r.2.2.2.1 ls) (hT : vm_T D κ base b adS L xs s.heap w H locs) :
    W p l e R s m args below meth c H locs (w.1 - n0) (w.2.1 - k0) Q (F0 m pc lsr (st.map (vm_v (vm_r base b adS)))) := by
  have CC := C
  obtain ⟨hx, hb, hml, hown, hts, hK, hAO, hN, hnm, hret, hlk, hX, hbb, hSI⟩ := C
  have hw1 : w.1 ≤ 1000 := hT.1.2.1
  unfold vm_chk at hch
  rw [Bool.and_eq_true] at hch
  replace hch := hch.2
  cases (show len = 3 from hlen)
  obtain ⟨i, st0, fs, v, rfl, e1, e2, e3, e4, e5, rfl, rfl, rfl, rfl⟩ := vm_put_i (show vm_put r a bb pc ls st w = some (pc', ls', st', w') from hs)
  have hf := vm_fT_ok _ (of_decide_eq_true (show decide ((o, x, a, bb) ∈ vm_fT) = true from hch))
  show W p l e R s m args below meth c H locs (w.1 - n0) (w.2.1 - k0) Q (F0 m pc lsr (vm_v _ v :: .ref (vm_r base b adS i) :: st0.map _))
  rw [vm_r_lt (i := i) (Nat.lt_of_lt_of_le e1 hw1)]
  exact vm_put_W CC ho hcl hf e1 e2 e3 e4 e5 hdg hT (fun H' locs' hT' => kk _ _ _ hL hT')
set_option maxHeartbeats 1000000 in
theorem vm_s_iaload  {pc len a bb cn o : Nat} (C : vm_C D κ base b adS adV L xs p s m args meth c r) (ho : vm_nm[o]? = some r.1) (hcl : r.2.1.cls = r.1) (hdg : decode r.2.2.1 pc = .ok (.iaload, len)) (hlen : len = vm_len .iaload len)
    (hch : vm_chk o (pc, .iaload, len, a, bb, cn) = true) (hd : d ≤ R.frames ∧ 40 * d + 20 ≤ R.locals)
    (hs : vm_step d r (pc, .iaload, len, a, bb, cn) ls st w = some (pc', ls', st', w')) (hn : n0 ≤ w.1 ∧ k0 ≤ w.2.1) (hc : w'.1 ≤ n0 + R.cells ∧ w'.2.1 ≤ k0 + R.slots)
    (kk : ∀ lsr' H' locs', vm_LV (vm_r base b adS) lsr' r.2.2.2.1 ls' → vm_T D κ base b adS L xs s.heap w' H' locs' → W p l e R s m args below meth c H' locs' (w'.1 - n0) (w'.2.1 - k0) Q (F0 m pc' lsr' (st'.map (vm_v (vm_r base b adS)))))
    (hL : vm_LV (vm_r base b adS) lsr r.2.2.2.1 ls) (hT : vm_T D κ base b adS L xs s.heap w H locs) :
    W p l e R s m args below meth c H locs (w.1 - n0) (w.2.1 - k0) Q (F0 m pc lsr (st.map (vm_v (vm_r base b adS)))) := by
  have CC := C
  obtain ⟨hx, hb, hml, hown, hts, hK, hAO, hN, hnm, hret, hlk, hX, hbb, hSI⟩ := C
  have hw1 : w.1 ≤ 1000 := hT.1.2.1
  unfold vm_chk at hch
  rw [Bool.and_eq_true] at hch
  replace hch := hch.2
  cases (show len = 1 from hlen)
  obtain ⟨i, j, st0, n, f, rfl, e1, e2, e3, rfl, rfl, rfl, rfl⟩ := vm_ald_i (show vm_ald pc ls st w = some (pc', ls', st', w') from hs)
  by_cases hi : i = vm_scr
  · subst hi
    have e4 := hT.1.2.2.1
    rw [e2] at e4
    cases e4
    exact va_sld (A := fun q => base ≤ q) hx hb hX (by have := hT.2.1.1; omega) (by show ¬ base ≤ b; omega) ⟨hT.2.1.2, fun q _ hq => hT.2.2.1 q (Nat.lt_of_not_le hq), hT.2.2.2⟩ e3 hdg (kk _ _ _ hL hT)
  · have e1 : i < w.1 := e1.elim id (fun h => absurd h hi)
    show W p l e R s m args below meth c H locs (w.1 - n0) (w.2.1 - k0) Q (F0 m pc lsr (.int j :: .ref (vm_r base b adS i) :: st0.map _))
    rw [vm_r_lt (i := i) (Nat.lt_of_lt_of_le e1 hw1)]
    exact va_iald hx hb hK (vm_va_at hT.1 e1 e2) 0 0 rfl rfl e3 hdg (kk _ _ _ hL hT)
set_option maxHeartbeats 1000000 in
theorem vm_s_iastore  {pc len a bb cn o : Nat} (C : vm_C D κ base b adS adV L xs p s m args meth c r) (ho : vm_nm[o]? = some r.1) (hcl : r.2.1.cls = r.1) (hdg : decode r.2.2.1 pc = .ok (.iastore, len)) (hlen : len = vm_len .iastore len)
    (hch : vm_chk o (pc, .iastore, len, a, bb, cn) = true) (hd : d ≤ R.frames ∧ 40 * d + 20 ≤ R.locals)
    (hs : vm_step d r (pc, .iastore, len, a, bb, cn) ls st w = some (pc', ls', st', w')) (hn : n0 ≤ w.1 ∧ k0 ≤ w.2.1) (hc : w'.1 ≤ n0 + R.cells ∧ w'.2.1 ≤ k0 + R.slots)
    (kk : ∀ lsr' H' locs', vm_LV (vm_r base b adS) lsr' r.2.2.2.1 ls' → vm_T D κ base b adS L xs s.heap w' H' locs' → W p l e R s m args below meth c H' locs' (w'.1 - n0) (w'.2.1 - k0) Q (F0 m pc' lsr' (st'.map (vm_v (vm_r base b adS)))))
    (hL : vm_LV (vm_r base b adS) lsr r.2.2.2.1 ls) (hT : vm_T D κ base b adS L xs s.heap w H locs) :
    W p l e R s m args below meth c H locs (w.1 - n0) (w.2.1 - k0) Q (F0 m pc lsr (st.map (vm_v (vm_r base b adS)))) := by
  have CC := C
  obtain ⟨hx, hb, hml, hown, hts, hK, hAO, hN, hnm, hret, hlk, hX, hbb, hSI⟩ := C
  have hw1 : w.1 ≤ 1000 := hT.1.2.1
  unfold vm_chk at hch
  rw [Bool.and_eq_true] at hch
  replace hch := hch.2
  cases (show len = 1 from hlen)
  obtain ⟨i, j, x, st0, n, f, rfl, e1, e2, e3, rfl, rfl, rfl, rfl⟩ := vm_ast_i (show vm_ast pc ls st w = some (pc', ls', st', w') from hs)
  show W p l e R s m args below meth c H locs (w.1 - n0) (w.2.1 - k0) Q (F0 m pc lsr (.int x :: .int j :: .ref (vm_r base b adS i) :: st0.map _))
  rw [vm_r_lt (i := i) (Nat.lt_of_lt_of_le e1 hw1)]
  exact vm_ast_W CC e1 e2 e3 hdg hT (fun H' locs' hT' => kk _ _ _ hL hT')
set_option maxHeartbeats 1000000 in
theorem vm_s_aaload  {pc len a bb cn o : Nat} (C : vm_C D κ base b adS adV L xs p s m args meth c r) (ho : vm_nm[o]? = some r.1) (hcl : r.2.1.cls = r.1) (hdg : decode r.2.2.1 pc = .ok (.aaload, len)) (hlen : len = vm_len .aaload len)
    (hch : vm_chk o (pc, .aaload, len, a, bb, cn) = true) (hd : d ≤ R.frames ∧ 40 * d + 20 ≤ R.locals)
    (hs : vm_step d r (pc, .aaload, len, a, bb, cn) ls st w = some (pc', ls', st', w')) (hn : n0 ≤ w.1 ∧ k0 ≤ w.2.1) (hc : w'.1 ≤ n0 + R.cells ∧ w'.2.1 ≤ k0 + R.slots)
    (kk : ∀ lsr' H' locs', vm_LV (vm_r base b adS) lsr' r.2.2.2.1 ls' → vm_T D κ base b adS L xs s.heap w' H' locs' → W p l e R s m args below meth c H' locs' (w'.1 - n0) (w'.2.1 - k0) Q (F0 m pc' lsr' (st'.map (vm_v (vm_r base b adS)))))
    (hL : vm_LV (vm_r base b adS) lsr r.2.2.2.1 ls) (hT : vm_T D κ base b adS L xs s.heap w H locs) :
    W p l e R s m args below meth c H locs (w.1 - n0) (w.2.1 - k0) Q (F0 m pc lsr (st.map (vm_v (vm_r base b adS)))) := by
  have CC := C
  obtain ⟨hx, hb, hml, hown, hts, hK, hAO, hN, hnm, hret, hlk, hX, hbb, hSI⟩ := C
  have hw1 : w.1 ≤ 1000 := hT.1.2.1
  unfold vm_chk at hch
  rw [Bool.and_eq_true] at hch
  replace hch := hch.2
  cases (show len = 1 from hlen)
  obtain ⟨i, j, st0, n, g, k, rfl, e1, e2, e3, e4, rfl, rfl, rfl, rfl⟩ := vm_qld_i (show vm_qld pc ls st w = some (pc', ls', st', w') from hs)
  show W p l e R s m args below meth c H locs (w.1 - n0) (w.2.1 - k0) Q (F0 m pc lsr (.int j :: .ref (vm_r base b adS i) :: st0.map _))
  rw [vm_r_lt (i := i) (Nat.lt_of_lt_of_le e1 hw1)]
  refine va_aldq (C := RX0) hx hb hK (vm_va_at hT.1 e1 e2) 0 1 rfl rfl e3 hdg ?_
  show W p l e R s m args below meth c H locs (w.1 - n0) (w.2.1 - k0) Q (F0 m (pc + 1) lsr (va_rf ((g j.toNatClampNeg).map (vm_r base b adS)) :: st0.map _))
  rw [e4]
  exact kk _ _ _ hL hT
set_option maxHeartbeats 1000000 in
theorem vm_s_aastore  {pc len a bb cn o : Nat} (C : vm_C D κ base b adS adV L xs p s m args meth c r) (ho : vm_nm[o]? = some r.1) (hcl : r.2.1.cls = r.1) (hdg : decode r.2.2.1 pc = .ok (.aastore, len)) (hlen : len = vm_len .aastore len)
    (hch : vm_chk o (pc, .aastore, len, a, bb, cn) = true) (hd : d ≤ R.frames ∧ 40 * d + 20 ≤ R.locals)
    (hs : vm_step d r (pc, .aastore, len, a, bb, cn) ls st w = some (pc', ls', st', w')) (hn : n0 ≤ w.1 ∧ k0 ≤ w.2.1) (hc : w'.1 ≤ n0 + R.cells ∧ w'.2.1 ≤ k0 + R.slots)
    (kk : ∀ lsr' H' locs', vm_LV (vm_r base b adS) lsr' r.2.2.2.1 ls' → vm_T D κ base b adS L xs s.heap w' H' locs' → W p l e R s m args below meth c H' locs' (w'.1 - n0) (w'.2.1 - k0) Q (F0 m pc' lsr' (st'.map (vm_v (vm_r base b adS)))))
    (hL : vm_LV (vm_r base b adS) lsr r.2.2.2.1 ls) (hT : vm_T D κ base b adS L xs s.heap w H locs) :
    W p l e R s m args below meth c H locs (w.1 - n0) (w.2.1 - k0) Q (F0 m pc lsr (st.map (vm_v (vm_r base b adS)))) := by
  have CC := C
  obtain ⟨hx, hb, hml, hown, hts, hK, hAO, hN, hnm, hret, hlk, hX, hbb, hSI⟩ := C
  have hw1 : w.1 ≤ 1000 := hT.1.2.1
  unfold vm_chk at hch
  rw [Bool.and_eq_true] at hch
  replace hch := hch.2
  cases (show len = 1 from hlen)
  obtain ⟨i, j, v, st0, n, g, fs, rfl, e1, e2, e3, e4, e5, rfl, rfl, rfl, rfl⟩ := vm_qst_i (show vm_qst pc ls st w = some (pc', ls', st', w') from hs)
  show W p l e R s m args below meth c H locs (w.1 - n0) (w.2.1 - k0) Q (F0 m pc lsr (.ref (vm_r base b adS v) :: .int j :: .ref (vm_r base b adS i) :: st0.map _))
  rw [vm_r_lt (i := v) (Nat.lt_of_lt_of_le e2 hw1), vm_r_lt (i := i) (Nat.lt_of_lt_of_le e1 hw1)]
  exact vm_qst_W CC e1 e2 e3 e4 e5 hdg hT (fun H' locs' hT' => kk _ _ _ hL hT')
set_option maxHeartbeats 1000000 in
theorem vm_s_arraylength  {pc len a bb cn o : Nat} (C : vm_C D κ base b adS adV L xs p s m args meth c r) (ho : vm_nm[o]? = some r.1) (hcl : r.2.1.cls = r.1) (hdg : decode r.2.2.1 pc = .ok (.arraylength, len)) (hlen : len = vm_len .arraylength len)
    (hch : vm_chk o (pc, .arraylength, len, a, bb, cn) = true) (hd : d ≤ R.frames ∧ 40 * d + 20 ≤ R.locals)
    (hs : vm_step d r (pc, .arraylength, len, a, bb, cn) ls st w = some (pc', ls', st', w')) (hn : n0 ≤ w.1 ∧ k0 ≤ w.2.1) (hc : w'.1 ≤ n0 + R.cells ∧ w'.2.1 ≤ k0 + R.slots)
    (kk : ∀ lsr' H' locs', vm_LV (vm_r base b adS) lsr' r.2.2.2.1 ls' → vm_T D κ base b adS L xs s.heap w' H' locs' → W p l e R s m args below meth c H' locs' (w'.1 - n0) (w'.2.1 - k0) Q (F0 m pc' lsr' (st'.map (vm_v (vm_r base b adS)))))
    (hL : vm_LV (vm_r base b adS) lsr r.2.2.2.1 ls) (hT : vm_T D κ base b adS L xs s.heap w H locs) :
    W p l e R s m args below meth c H locs (w.1 - n0) (w.2.1 - k0) Q (F0 m pc lsr (st.map (vm_v (vm_r base b adS)))) := by
  have CC := C
  obtain ⟨hx, hb, hml, hown, hts, hK, hAO, hN, hnm, hret, hlk, hX, hbb, hSI⟩ := C
  have hw1 : w.1 ≤ 1000 := hT.1.2.1
  unfold vm_chk at hch
  rw [Bool.and_eq_true] at hch
  replace hch := hch.2
  cases (show len = 1 from hlen)
  obtain ⟨i, n, st0, rfl, e1, rfl, rfl, rfl, rfl⟩ := vm_alen_i (show vm_alen pc ls st w = some (pc', ls', st', w') from hs)
  rcases e1 with ⟨f, e2, e1⟩ | ⟨g, e2, e1⟩
  · by_cases hi : i = vm_scr
    · subst hi
      have e4 := hT.1.2.2.1
      rw [e2] at e4
      cases e4
      exact va_slen (A := fun q => base ≤ q) (H0 := s.heap) (b := b) hx hb hX (by have := hT.2.1.1; omega) (by show ¬ base ≤ b; omega) ⟨hT.2.1.2, fun q _ hq => hT.2.2.1 q (Nat.lt_of_not_le hq), hT.2.2.2⟩ hdg (kk _ _ _ hL hT)
    · have e1 : i < w.1 := e1.elim id (fun h => absurd h hi)
      show W p l e R s m args below meth c H locs (w.1 - n0) (w.2.1 - k0) Q (F0 m pc lsr (.ref (vm_r base b adS i) :: st0.map _))
      rw [vm_r_lt (i := i) (Nat.lt_of_lt_of_le e1 hw1)]
      exact va_alen hx hb hK (vm_va_at hT.1 e1 e2) 0 0 rfl rfl rfl hdg (kk _ _ _ hL hT)
  · show W p l e R s m args below meth c H locs (w.1 - n0) (w.2.1 - k0) Q (F0 m pc lsr (.ref (vm_r base b adS i) :: st0.map _))
    rw [vm_r_lt (i := i) (Nat.lt_of_lt_of_le e1 hw1)]
    exact va_alen hx hb hK (vm_va_at hT.1 e1 e2) 0 1 rfl rfl rfl hdg (kk _ _ _ hL hT)
set_option maxHeartbeats 1000000 in
theorem vm_s_newarray (t : ArrayType) {pc len a bb cn o : Nat} (C : vm_C D κ base b adS adV L xs p s m args meth c r) (ho : vm_nm[o]? = some r.1) (hcl : r.2.1.cls = r.1) (hdg : decode r.2.2.1 pc = .ok ((.newarray t), len)) (hlen : len = vm_len (.newarray t) len)
    (hch : vm_chk o (pc, (.newarray t), len, a, bb, cn) = true) (hd : d ≤ R.frames ∧ 40 * d + 20 ≤ R.locals)
    (hs : vm_step d r (pc, (.newarray t), len, a, bb, cn) ls st w = some (pc', ls', st', w')) (hn : n0 ≤ w.1 ∧ k0 ≤ w.2.1) (hc : w'.1 ≤ n0 + R.cells ∧ w'.2.1 ≤ k0 + R.slots)
    (kk : ∀ lsr' H' locs', vm_LV (vm_r base b adS) lsr' r.2.2.2.1 ls' → vm_T D κ base b adS L xs s.heap w' H' locs' → W p l e R s m args below meth c H' locs' (w'.1 - n0) (w'.2.1 - k0) Q (F0 m pc' lsr' (st'.map (vm_v (vm_r base b adS)))))
    (hL : vm_LV (vm_r base b adS) lsr r.2.2.2.1 ls) (hT : vm_T D κ base b adS L xs s.heap w H locs) :
    W p l e R s m args below meth c H locs (w.1 - n0) (w.2.1 - k0) Q (F0 m pc lsr (st.map (vm_v (vm_r base b adS)))) := by
  have CC := C
  obtain ⟨hx, hb, hml, hown, hts, hK, hAO, hN, hnm, hret, hlk, hX, hbb, hSI⟩ := C
  have hw1 : w.1 ≤ 1000 := hT.1.2.1
  unfold vm_chk at hch
  rw [Bool.and_eq_true] at hch
  replace hch := hch.2
  cases (show len = 2 from hlen)
  obtain ⟨n, st0, rfl, e1, e2, e3, rfl, rfl, rfl, rfl⟩ := vm_newi_i (show vm_newi pc ls st w = some (pc', ls', st', w') from hs)
  have hc : w.1 + 1 ≤ n0 + R.cells ∧ w.2.1 + n.toNatClampNeg ≤ k0 + R.slots := hc
  cases t
  case int =>
    refine vm_newi_W CC e1 e2 e3 hdg (by omega) (by omega) hT fun H' locs' hT' => ?_
    have K := kk _ _ _ hL hT'
    have a1 : w.1 + 1 - n0 = w.1 - n0 + 1 := by omega
    have a2 : w.2.1 + n.toNatClampNeg - k0 = w.2.1 - k0 + n.toNatClampNeg := by omega
    have a3 : vm_r base b adS w.1 = base + w.1 := vm_r_lt (by omega)
    have K : W p l e R s m args below meth c H' locs' (w.1 + 1 - n0) (w.2.1 + n.toNatClampNeg - k0) Q (F0 m (pc + 2) lsr (.ref (vm_r base b adS w.1) :: st0.map (vm_v (vm_r base b adS)))) := K
    rw [a1, a2, a3] at K
    exact K
  all_goals exact absurd (show false = true from hch) (fun h => by cases h)
set_option maxHeartbeats 1000000 in
theorem vm_s_anewarray (x : Nat) {pc len a bb cn o : Nat} (C : vm_C D κ base b adS adV L xs p s m args meth c r) (ho : vm_nm[o]? = some r.1) (hcl : r.2.1.cls = r.1) (hdg : decode r.2.2.1 pc = .ok ((.anewarray x), len)) (hlen : len = vm_len (.anewarray x) len)
    (hch : vm_chk o (pc, (.anewarray x), len, a, bb, cn) = true) (hd : d ≤ R.frames ∧ 40 * d + 20 ≤ R.locals)
    (hs : vm_step d r (pc, (.anewarray x), len, a, bb, cn) ls st w = some (pc', ls', st', w')) (hn : n0 ≤ w.1 ∧ k0 ≤ w.2.1) (hc : w'.1 ≤ n0 + R.cells ∧ w'.2.1 ≤ k0 + R.slots)
    (kk : ∀ lsr' H' locs', vm_LV (vm_r base b adS) lsr' r.2.2.2.1 ls' → vm_T D κ base b adS L xs s.heap w' H' locs' → W p l e R s m args below meth c H' locs' (w'.1 - n0) (w'.2.1 - k0) Q (F0 m pc' lsr' (st'.map (vm_v (vm_r base b adS)))))
    (hL : vm_LV (vm_r base b adS) lsr r.2.2.2.1 ls) (hT : vm_T D κ base b adS L xs s.heap w H locs) :
    W p l e R s m args below meth c H locs (w.1 - n0) (w.2.1 - k0) Q (F0 m pc lsr (st.map (vm_v (vm_r base b adS)))) := by
  have CC := C
  obtain ⟨hx, hb, hml, hown, hts, hK, hAO, hN, hnm, hret, hlk, hX, hbb, hSI⟩ := C
  have hw1 : w.1 ≤ 1000 := hT.1.2.1
  unfold vm_chk at hch
  rw [Bool.and_eq_true] at hch
  replace hch := hch.2
  cases (show len = 3 from hlen)
  obtain ⟨n, st0, rfl, e1, e2, e3, rfl, rfl, rfl, rfl⟩ := vm_newq_i (show vm_newq pc ls st w = some (pc', ls', st', w') from hs)
  have hc : w.1 + 1 ≤ n0 + R.cells ∧ w.2.1 + n.toNatClampNeg ≤ k0 + R.slots := hc
  have hch : (decide ((o, x, a) ∈ vm_nT) && (a == 0)) = true := hch
  rw [Bool.and_eq_true, beq_iff_eq] at hch
  obtain ⟨h1, rfl⟩ := hch
  refine vm_newq_W CC ho (vm_nT_ok _ (of_decide_eq_true h1)) e1 e2 e3 hdg (by omega) (by omega) hT fun H' locs' hT' => ?_
  have K := kk _ _ _ hL hT'
  have a1 : w.1 + 1 - n0 = w.1 - n0 + 1 := by omega
  have a2 : w.2.1 + n.toNatClampNeg - k0 = w.2.1 - k0 + n.toNatClampNeg := by omega
  have a3 : vm_r base b adS w.1 = base + w.1 := vm_r_lt (by omega)
  have K : W p l e R s m args below meth c H' locs' (w.1 + 1 - n0) (w.2.1 + n.toNatClampNeg - k0) Q (F0 m (pc + 3) lsr (.ref (vm_r base b adS w.1) :: st0.map (vm_v (vm_r base b adS)))) := K
  rw [a1, a2, a3] at K
  exact K
set_option maxHeartbeats 1000000 in
theorem vm_s_new (x : Nat) {pc len a bb cn o : Nat} (C : vm_C D κ base b adS adV L xs p s m args meth c r) (ho : vm_nm[o]? = some r.1) (hcl : r.2.1.cls = r.1) (hdg : decode r.2.2.1 pc = .ok ((.new x), len)) (hlen : len = vm_len (.new x) len)
    (hch : vm_chk o (pc, (.new x), len, a, bb, cn) = true) (hd : d ≤ R.frames ∧ 40 * d + 20 ≤ R.locals)
    (hs : vm_step d r (pc, (.new x), len, a, bb, cn) ls st w = some (pc', ls', st', w')) (hn : n0 ≤ w.1 ∧ k0 ≤ w.2.1) (hc : w'.1 ≤ n0 + R.cells ∧ w'.2.1 ≤ k0 + R.slots)
    (kk : ∀ lsr' H' locs', vm_LV (vm_r base b adS) lsr' r.2.2.2.1 ls' → vm_T D κ base b adS L xs s.heap w' H' locs' → W p l e R s m args below meth c H' locs' (w'.1 - n0) (w'.2.1 - k0) Q (F0 m pc' lsr' (st'.map (vm_v (vm_r base b adS)))))
    (hL : vm_LV (vm_r base b adS) lsr r.2.2.2.1 ls) (hT : vm_T D κ base b adS L xs s.heap w H locs) :
    W p l e R s m args below meth c H locs (w.1 - n0) (w.2.1 - k0) Q (F0 m pc lsr (st.map (vm_v (vm_r base b adS)))) := by
  have CC := C
  obtain ⟨hx, hb, hml, hown, hts, hK, hAO, hN, hnm, hret, hlk, hX, hbb, hSI⟩ := C
  have hw1 : w.1 ≤ 1000 := hT.1.2.1
  unfold vm_chk at hch
  rw [Bool.and_eq_true] at hch
  replace hch := hch.2
  cases (show len = 3 from hlen)
  obtain ⟨Cn, T, N, e1, e3, rfl, rfl, rfl, rfl⟩ := vm_new_i (show vm_new a pc ls st w = some (pc', ls', st', w') from hs)
  have hc : w.1 + 1 ≤ n0 + R.cells ∧ w.2.1 + N ≤ k0 + R.slots := hc
  refine vm_new_W CC ho (vm_nT_ok _ (of_decide_eq_true (show decide ((o, x, a) ∈ vm_nT) = true from hch))) e1 e3 hdg (by omega) (by omega) hT fun H' locs' hT' => ?_
  have K := kk _ _ _ hL hT'
  have a1 : w.1 + 1 - n0 = w.1 - n0 + 1 := by omega
  have a2 : w.2.1 + N - k0 = w.2.1 - k0 + N := by omega
  have a3 : vm_r base b adS w.1 = base + w.1 := vm_r_lt (by omega)
  have K : W p l e R s m args below meth c H' locs' (w.1 + 1 - n0) (w.2.1 + N - k0) Q (F0 m (pc + 3) lsr (.ref (vm_r base b adS w.1) :: st.map (vm_v (vm_r base b adS)))) := K
  rw [a1, a2, a3] at K
  exact K
set_option maxHeartbeats 1000000 in
theorem vm_s_invokespecial (x : Nat) {pc len a bb cn o : Nat} (C : vm_C D κ base b adS adV L xs p s m args meth c r) (ho : vm_nm[o]? = some r.1) (hcl : r.2.1.cls = r.1) (hdg : decode r.2.2.1 pc = .ok ((.invokespecial x), len)) (hlen : len = vm_len (.invokespecial x) len)
    (hch : vm_chk o (pc, (.invokespecial x), len, a, bb, cn) = true) (hd : d ≤ R.frames ∧ 40 * d + 20 ≤ R.locals)
    (hs : vm_step d r (pc, (.invokespecial x), len, a, bb, cn) ls st w = some (pc', ls', st', w')) (hn : n0 ≤ w.1 ∧ k0 ≤ w.2.1) (hc : w'.1 ≤ n0 + R.cells ∧ w'.2.1 ≤ k0 + R.slots)
    (kk : ∀ lsr' H' locs', vm_LV (vm_r base b adS) lsr' r.2.2.2.1 ls' → vm_T D κ base b adS L xs s.heap w' H' locs' → W p l e R s m args below meth c H' locs' (w'.1 - n0) (w'.2.1 - k0) Q (F0 m pc' lsr' (st'.map (vm_v (vm_r base b adS)))))
    (hL : vm_LV (vm_r base b adS) lsr r.2.2.2.1 ls) (hT : vm_T D κ base b adS L xs s.heap w H locs) :
    W p l e R s m args below meth c H locs (w.1 - n0) (w.2.1 - k0) Q (F0 m pc lsr (st.map (vm_v (vm_r base b adS)))) := by
  have CC := C
  obtain ⟨hx, hb, hml, hown, hts, hK, hAO, hN, hnm, hret, hlk, hX, hbb, hSI⟩ := C
  have hw1 : w.1 ≤ 1000 := hT.1.2.1
  unfold vm_chk at hch
  rw [Bool.and_eq_true] at hch
  replace hch := hch.2
  cases (show len = 3 from hlen)
  have hs : (if a = 5 then vm_oin d pc ls st w else none) = some (pc', ls', st', w') := hs
  by_cases ha : a = 5
  · rw [if_pos ha] at hs
    subst ha
    obtain ⟨i, st0, rfl, e1, e2, rfl, rfl, rfl, rfl⟩ := vm_oin_i hs
    have hch : (decide ((o, x, 5, bb, cn) ∈ vm_cT) && _) = true := hch
    rw [Bool.and_eq_true] at hch
    obtain ⟨own, r', g1, g2, g3, -⟩ := vm_cT_ok _ (of_decide_eq_true hch.1)
    cases ho.symm.trans g1
    have e2' : ((st0.map (vm_v (vm_r base b adS))).map fun v => v.category).sum ≤ 8 := by
      rw [List.map_map]
      have : ((fun v : Value => v.category) ∘ vm_v (vm_r base b adS)) = fun v => v.category := by funext v; exact vm_v_cat _ v
      rw [this]; exact e2
    refine W.objInit hx hb hown (hts _ (show Cond.methodLink r.1 x objectInit ∈ vm_G from g3)) (hts _ vm_oi1) (hts _ vm_oi2) rfl (by rw [hml]; exact hL.2.1) rfl hdg (by omega) (by show 2 * 0 + _ + 12 ≤ R.locals; omega) ?_
    exact kk _ _ _ hL hT
  · rw [if_neg ha] at hs; cases hs
set_option maxHeartbeats 1000000 in
theorem vm_s_invokevirtual (x : Nat) {pc len a bb cn o : Nat} (C : vm_C D κ base b adS adV L xs p s m args meth c r) (ho : vm_nm[o]? = some r.1) (hcl : r.2.1.cls = r.1) (hdg : decode r.2.2.1 pc = .ok ((.invokevirtual x), len)) (hlen : len = vm_len (.invokevirtual x) len)
    (hch : vm_chk o (pc, (.invokevirtual x), len, a, bb, cn) = true) (hd : d ≤ R.frames ∧ 40 * d + 20 ≤ R.locals)
    (hs : vm_step d r (pc, (.invokevirtual x), len, a, bb, cn) ls st w = some (pc', ls', st', w')) (hn : n0 ≤ w.1 ∧ k0 ≤ w.2.1) (hc : w'.1 ≤ n0 + R.cells ∧ w'.2.1 ≤ k0 + R.slots)
    (kk : ∀ lsr' H' locs', vm_LV (vm_r base b adS) lsr' r.2.2.2.1 ls' → vm_T D κ base b adS L xs s.heap w' H' locs' → W p l e R s m args below meth c H' locs' (w'.1 - n0) (w'.2.1 - k0) Q (F0 m pc' lsr' (st'.map (vm_v (vm_r base b adS)))))
    (hL : vm_LV (vm_r base b adS) lsr r.2.2.2.1 ls) (hT : vm_T D κ base b adS L xs s.heap w H locs) :
    W p l e R s m args below meth c H locs (w.1 - n0) (w.2.1 - k0) Q (F0 m pc lsr (st.map (vm_v (vm_r base b adS)))) := by
  have CC := C
  obtain ⟨hx, hb, hml, hown, hts, hK, hAO, hN, hnm, hret, hlk, hX, hbb, hSI⟩ := C
  have hw1 : w.1 ≤ 1000 := hT.1.2.1
  unfold vm_chk at hch
  rw [Bool.and_eq_true] at hch
  replace hch := hch.2
  cases (show len = 3 from hlen)
  have hs : (if a = 6 then vm_sln d pc ls st w else if a = 7 then vm_sch d pc ls st w else none) = some (pc', ls', st', w') := hs
  have hch : (decide ((o, x, a, bb, cn) ∈ vm_cT) && _) = true := hch
  rw [Bool.and_eq_true] at hch
  obtain ⟨own, r', g1, g2, g3, -⟩ := vm_cT_ok _ (of_decide_eq_true hch.1)
  cases ho.symm.trans g1
  have cat : ∀ st0 : List Value, (st0.map fun v => v.category).sum ≤ 8 → ((st0.map (vm_v (vm_r base b adS))).map fun v => v.category).sum ≤ 8 := by
    intro st0 h
    rw [List.map_map]
    have : ((fun v : Value => v.category) ∘ vm_v (vm_r base b adS)) = fun v => v.category := by funext v; exact vm_v_cat _ v
    rw [this]; exact h
  by_cases ha : a = 6
  · rw [if_pos ha] at hs
    subst ha
    obtain ⟨st0, rfl, e1, e2, rfl, rfl, rfl, rfl⟩ := vm_sln_i hs
    exact vm_str_W (As := []) (ws := vm_wl) (y := yJ0_length_8abf5) (maxL := 1) (n := 0) (fun _ => trivial) CC ⟨e1, hd⟩ rfl vm_sl1 (by decide) (vm_c_length l base adS adV) g3 vm_sl2 vm_sl3 vm_sl4 ⟨by decide +kernel, by decide +kernel, by decide +kernel⟩ rfl (cat _ e2) hdg hL hT ⟨by omega, by omega⟩ (fun locs' hT' => kk _ _ _ hL hT')
  · rw [if_neg ha] at hs
    by_cases ha : a = 7
    · rw [if_pos ha] at hs
      subst ha
      obtain ⟨j, z, st0, rfl, e1, e2, e3, e4, rfl, rfl, rfl, rfl⟩ := vm_sch_i hs
      exact vm_str_W (As := [.int j]) (ws := vm_wc) (y := yJ0_charAt_5068e) (maxL := 2) (n := 1) (fun _ => trivial) CC ⟨e1, hd⟩ rfl vm_sc1 (by decide) (vm_c_charAt l base adS adV j z e3 e4) g3 vm_sc2 vm_sc3 vm_sc4 ⟨by decide +kernel, by decide +kernel, by decide +kernel⟩ rfl (cat _ e2) hdg hL hT ⟨by omega, by omega⟩ (fun locs' hT' => kk _ _ _ hL hT')
    · rw [if_neg ha] at hs; cases hs
end VMT
end
section
/-! every instruction: the cases together -/
section VMT2
variable {p : Program} {l : Launch} {e : Env} {R : Room} {s : State} {m : MethodId} {args : Array Value} {below : List Frame} {meth : Method} {c : Code} {H : Heap} {locs : List Loc} {Q : State → Prop}
variable {D : va_G} {κ : Nat → ClassId} {base b adS adV L : Nat} {xs : Nat → Int32} {r : vm_M} {lsr : Array Slot} {ls ls' : vm_L} {st st' : List Value} {w w' : vm_W} {pc' n0 k0 d : Nat}
set_option maxHeartbeats 2000000 in
set_option maxRecDepth 20000 in
theorem vm_step_W {q : vm_I} (C : vm_C D κ base b adS adV L xs p s m args meth c r) (hr : vm_ok r) (hq : q ∈ r.2.2.2.2.2) (hd : d ≤ R.frames ∧ 40 * d + 20 ≤ R.locals)
    (hs : vm_step d r q ls st w = some (pc', ls', st', w')) (hn : n0 ≤ w.1 ∧ k0 ≤ w.2.1) (hc : w'.1 ≤ n0 + R.cells ∧ w'.2.1 ≤ k0 + R.slots)
    (kk : ∀ lsr' H' locs', vm_LV (vm_r base b adS) lsr' r.2.2.2.1 ls' → vm_T D κ base b adS L xs s.heap w' H' locs' → W p l e R s m args below meth c H' locs' (w'.1 - n0) (w'.2.1 - k0) Q (F0 m pc' lsr' (st'.map (vm_v (vm_r base b adS)))))
    (hL : vm_LV (vm_r base b adS) lsr r.2.2.2.1 ls) (hT : vm_T D κ base b adS L xs s.heap w H locs) :
    W p l e R s m args below meth c H locs (w.1 - n0) (w.2.1 - k0) Q (F0 m q.1 lsr (st.map (vm_v (vm_r base b adS)))) := by
  obtain ⟨o, ho, hdec, hchk, hm20, hcl⟩ := hr
  have hdg := hdec q hq
  have hch := hchk q hq
  obtain ⟨pc, i, len, a, bb, cn⟩ := q
  have hlen : len = vm_len i len := by
    have h := hch
    unfold vm_chk at h
    rw [Bool.and_eq_true, beq_iff_eq] at h
    exact h.1
  replace hdg : decode r.2.2.1 pc = .ok (i, len) := hdg
  show W p l e R s m args below meth c H locs (w.1 - n0) (w.2.1 - k0) Q (F0 m pc lsr (st.map (vm_v (vm_r base b adS))))
  clear hq hdec hchk
  cases i
  case iconst => exact vm_s_iconst _ C ho hcl hdg hlen hch hd hs hn hc kk hL hT
  case bipush => exact vm_s_bipush _ C ho hcl hdg hlen hch hd hs hn hc kk hL hT
  case sipush => exact vm_s_sipush _ C ho hcl hdg hlen hch hd hs hn hc kk hL hT
  case lconst => exact vm_s_lconst _ C ho hcl hdg hlen hch hd hs hn hc kk hL hT
  case aconst_null => exact vm_s_aconst_null  C ho hcl hdg hlen hch hd hs hn hc kk hL hT
  case ldc => exact vm_s_ldc _ C ho hcl hdg hlen hch hd hs hn hc kk hL hT
  case ldc2_w => exact vm_s_ldc2_w _ C ho hcl hdg hlen hch hd hs hn hc kk hL hT
  case iload_n => exact vm_s_iload_n _ C ho hcl hdg hlen hch hd hs hn hc kk hL hT
  case iload => exact vm_s_iload _ C ho hcl hdg hlen hch hd hs hn hc kk hL hT
  case lload_n => exact vm_s_lload_n _ C ho hcl hdg hlen hch hd hs hn hc kk hL hT
  case lload => exact vm_s_lload _ C ho hcl hdg hlen hch hd hs hn hc kk hL hT
  case aload_n => exact vm_s_aload_n _ C ho hcl hdg hlen hch hd hs hn hc kk hL hT
  case istore_n => exact vm_s_istore_n _ C ho hcl hdg hlen hch hd hs hn hc kk hL hT
  case istore => exact vm_s_istore _ C ho hcl hdg hlen hch hd hs hn hc kk hL hT
  case astore_n => exact vm_s_astore_n _ C ho hcl hdg hlen hch hd hs hn hc kk hL hT
  case lstore_n => exact vm_s_lstore_n _ C ho hcl hdg hlen hch hd hs hn hc kk hL hT
  case lstore => exact vm_s_lstore _ C ho hcl hdg hlen hch hd hs hn hc kk hL hT
  case iinc => exact vm_s_iinc _ _ C ho hcl hdg hlen hch hd hs hn hc kk hL hT
  case iadd => exact vm_s_iadd  C ho hcl hdg hlen hch hd hs hn hc kk hL hT
  case isub => exact vm_s_isub  C ho hcl hdg hlen hch hd hs hn hc kk hL hT
  case imul => exact vm_s_imul  C ho hcl hdg hlen hch hd hs hn hc kk hL hT
  case idiv => exact vm_s_idiv  C ho hcl hdg hlen hch hd hs hn hc kk hL hT
  case irem => exact vm_s_irem  C ho hcl hdg hlen hch hd hs hn hc kk hL hT
  case iand => exact vm_s_iand  C ho hcl hdg hlen hch hd hs hn hc kk hL hT
  case ior => exact vm_s_ior  C ho hcl hdg hlen hch hd hs hn hc kk hL hT
  case ixor => exact vm_s_ixor  C ho hcl hdg hlen hch hd hs hn hc kk hL hT
  case ishl => exact vm_s_ishl  C ho hcl hdg hlen hch hd hs hn hc kk hL hT
  case ishr => exact vm_s_ishr  C ho hcl hdg hlen hch hd hs hn hc kk hL hT
  case ladd => exact vm_s_ladd  C ho hcl hdg hlen hch hd hs hn hc kk hL hT
  case lmul => exact vm_s_lmul  C ho hcl hdg hlen hch hd hs hn hc kk hL hT
  case ldiv => exact vm_s_ldiv  C ho hcl hdg hlen hch hd hs hn hc kk hL hT
  case lrem => exact vm_s_lrem  C ho hcl hdg hlen hch hd hs hn hc kk hL hT
  case lcmp => exact vm_s_lcmp  C ho hcl hdg hlen hch hd hs hn hc kk hL hT
  case i2l => exact vm_s_i2l  C ho hcl hdg hlen hch hd hs hn hc kk hL hT
  case l2i => exact vm_s_l2i  C ho hcl hdg hlen hch hd hs hn hc kk hL hT
  case dup => exact vm_s_dup  C ho hcl hdg hlen hch hd hs hn hc kk hL hT
  case pop => exact vm_s_pop  C ho hcl hdg hlen hch hd hs hn hc kk hL hT
  case dup2 => exact vm_s_dup2  C ho hcl hdg hlen hch hd hs hn hc kk hL hT
  case goto => exact vm_s_goto _ C ho hcl hdg hlen hch hd hs hn hc kk hL hT
  case ifCond => exact vm_s_ifCond _ _ C ho hcl hdg hlen hch hd hs hn hc kk hL hT
  case if_icmp => exact vm_s_if_icmp _ _ C ho hcl hdg hlen hch hd hs hn hc kk hL hT
  case ifnull => exact vm_s_ifnull _ C ho hcl hdg hlen hch hd hs hn hc kk hL hT
  case ifnonnull => exact vm_s_ifnonnull _ C ho hcl hdg hlen hch hd hs hn hc kk hL hT
  case tableswitch => exact vm_s_tableswitch _ _ _ _ C ho hcl hdg hlen hch hd hs hn hc kk hL hT
  case lookupswitch => exact vm_s_lookupswitch _ _ C ho hcl hdg hlen hch hd hs hn hc kk hL hT
  case getfield => exact vm_s_getfield _ C ho hcl hdg hlen hch hd hs hn hc kk hL hT
  case putfield => exact vm_s_putfield _ C ho hcl hdg hlen hch hd hs hn hc kk hL hT
  case iaload => exact vm_s_iaload  C ho hcl hdg hlen hch hd hs hn hc kk hL hT
  case iastore => exact vm_s_iastore  C ho hcl hdg hlen hch hd hs hn hc kk hL hT
  case aaload => exact vm_s_aaload  C ho hcl hdg hlen hch hd hs hn hc kk hL hT
  case aastore => exact vm_s_aastore  C ho hcl hdg hlen hch hd hs hn hc kk hL hT
  case arraylength => exact vm_s_arraylength  C ho hcl hdg hlen hch hd hs hn hc kk hL hT
  case newarray => exact vm_s_newarray _ C ho hcl hdg hlen hch hd hs hn hc kk hL hT
  case anewarray => exact vm_s_anewarray _ C ho hcl hdg hlen hch hd hs hn hc kk hL hT
  case new => exact vm_s_new _ C ho hcl hdg hlen hch hd hs hn hc kk hL hT
  case invokespecial => exact vm_s_invokespecial _ C ho hcl hdg hlen hch hd hs hn hc kk hL hT
  case invokevirtual => exact vm_s_invokevirtual _ C ho hcl hdg hlen hch hd hs hn hc kk hL hT
  all_goals exact absurd hs (fun h => by cases h)
end VMT2
end
section
/-! A RUN OF THE PURE MACHINE IS A RUN OF THE REAL ONE -/
theorem vm_find_in {l : List vm_I} : ∀ {pc : Nat} {q : vm_I}, vm_find l pc = some q → q ∈ l ∧ q.1 = pc := by
  induction l with
  | nil => intro pc q h; cases h
  | cons a t ih =>
    intro pc q h
    unfold vm_find at h
    split at h
    · rename_i hp
      cases h
      exact ⟨List.mem_cons_self, hp⟩
    · obtain ⟨h1, h2⟩ := ih h
      exact ⟨List.mem_cons_of_mem _ h1, h2⟩
theorem vm_take_rev {st : List Value} {n : Nat} {v : Value} (h : st[n]? = some v) : (st.take (n + 1)).reverse = v :: (st.take n).reverse ∧ st = ((st.take n).reverse).reverse ++ v :: st.drop (n + 1) ∧ ((st.take n).reverse).length = n := by
  have hl : n < st.length := (List.getElem?_eq_some_iff.mp h).1
  have hv : st[n] = v := (List.getElem?_eq_some_iff.mp h).2
  refine ⟨?_, ?_, ?_⟩
  · rw [List.take_succ_eq_append_getElem hl, List.reverse_append, hv]; rfl
  · rw [List.reverse_reverse]
    have := List.take_append_drop n st
    rw [List.drop_eq_getElem_cons hl, hv] at this
    exact this.symm
  · rw [List.length_reverse, List.length_take]; omega
theorem vm_call_i {q : vm_I} {st : List Value} {w : vm_W} {mid' : Nat} {as rest : List Value} (h : vm_call q st w = some (mid', as, rest)) :
    (∃ x i as' fs, q.2.1 = .invokevirtual x ∧ q.2.2.2.1 = 0 ∧ as = .ref i :: as' ∧ st = as'.reverse ++ .ref i :: rest ∧ as'.length = q.2.2.2.2.2 % 100 ∧ i < w.1 ∧ w.2.2 i = .inr (.inr (q.2.2.2.2.2 / 100, fs)) ∧ (rest.map fun v => v.category).sum ≤ 8 ∧ mid' = q.2.2.2.2.1) ∨
    (∃ x, q.2.1 = .invokestatic x ∧ st = as.reverse ++ rest ∧ as.length = q.2.2.2.2.2 % 100 ∧ (rest.map fun v => v.category).sum ≤ 8 ∧ mid' = q.2.2.2.2.1) ∨
    (∃ x i as', q.2.1 = .invokespecial x ∧ (q.2.2.2.1 = 2 ∨ q.2.2.2.1 = 4) ∧ as = .ref i :: as' ∧ st = as'.reverse ++ .ref i :: rest ∧ as'.length = q.2.2.2.2.2 % 100 ∧ (rest.map fun v => v.category).sum ≤ 8 ∧ mid' = q.2.2.2.2.1) := by
  obtain ⟨pc, i, len, a, b, cn⟩ := q
  cases i
  case invokevirtual x =>
    have h : (if a = 0 then match st[cn % 100]? with
      | some (.ref i) => if i < w.1 then match w.2.2 i with
        | .inr (.inr (ci, _)) => if ci = cn / 100 ∧ ((st.drop (cn % 100 + 1)).map fun v => v.category).sum ≤ 8 then some (b, (st.take (cn % 100 + 1)).reverse, st.drop (cn % 100 + 1)) else none
        | _ => none
        else none
      | _ => none
      else none) = some (mid', as, rest) := h
    split at h
    · rename_i ha
      split at h
      · rename_i i hst
        split at h
        · rename_i hi
          split at h
          · rename_i ci fs he
            split at h
            · rename_i hc
              obtain ⟨rfl, hc⟩ := hc
              cases h
              obtain ⟨t1, t2, t3⟩ := vm_take_rev hst
              exact Or.inl ⟨x, i, _, fs, rfl, ha, t1, t2, t3, hi, he, hc, rfl⟩
            · cases h
          · cases h
        · cases h
      · cases h
    · cases h
  case invokestatic x =>
    have h : (if cn % 100 ≤ st.length ∧ ((st.drop (cn % 100)).map fun v => v.category).sum ≤ 8 then some (b, (st.take (cn % 100)).reverse, st.drop (cn % 100)) else none) = some (mid', as, rest) := h
    split at h
    · rename_i hc
      cases h
      exact Or.inr (Or.inl ⟨x, rfl, by rw [List.reverse_reverse, List.take_append_drop], by rw [List.length_reverse, List.length_take]; exact Nat.min_eq_left hc.1, hc.2, rfl⟩)
    · cases h
  case invokespecial x =>
    have h : (if a = 2 ∨ a = 4 then match st[cn % 100]? with
      | some (.ref _) => if ((st.drop (cn % 100 + 1)).map fun v => v.category).sum ≤ 8 then some (b, (st.take (cn % 100 + 1)).reverse, st.drop (cn % 100 + 1)) else none
      | _ => none
      else none) = some (mid', as, rest) := h
    split at h
    · rename_i ha
      split at h
      · rename_i i hst
        split at h
        · rename_i hc
          cases h
          obtain ⟨t1, t2, t3⟩ := vm_take_rev hst
          exact Or.inr (Or.inr ⟨x, i, _, rfl, ha, t1, t2, t3, hc, rfl⟩)
        · cases h
      · cases h
    · cases h
  all_goals exact absurd (show (none : Option (Nat × List Value × List Value)) = some (mid', as, rest) from h) (fun h => by cases h)
def vm_grow (w : vm_W) (o : Option (Nat × vm_L × List Value × vm_W)) : Prop := match o with
  | none => True
  | some x => w.1 ≤ x.2.2.2.1 ∧ w.2.1 ≤ x.2.2.2.2.1
theorem vm_grow_eq {w : vm_W} {pc : Nat} {ls : vm_L} {st : List Value} : vm_grow w (some (pc, ls, st, w)) := ⟨Nat.le_refl _, Nat.le_refl _⟩
theorem vm_step_mono {d : Nat} {r : vm_M} {q : vm_I} {ls ls' : vm_L} {st st' : List Value} {w w' : vm_W} {pc' : Nat} (h : vm_step d r q ls st w = some (pc', ls', st', w')) : w.1 ≤ w'.1 ∧ w.2.1 ≤ w'.2.1 := by
  have G : vm_grow w (vm_step d r q ls st w) := by
    obtain ⟨pc, i, len, a, b, cn⟩ := q
    clear h
    cases i
    all_goals first
      | exact trivial
      | exact vm_grow_eq
      | (simp only [vm_step]; (try unfold vm_push); (try unfold vm_bin); (try unfold vm_lbin); (try unfold vm_sti); (try unfold vm_sta); (try unfold vm_stl); (try unfold vm_iinc); (try unfold vm_if0); (try unfold vm_if2); (try unfold vm_ifn); (try unfold vm_tab); (try unfold vm_lku); (try unfold vm_jmp); (try unfold vm_lc); (try unfold vm_get); (try unfold vm_put); (try unfold vm_ald); (try unfold vm_ast); (try unfold vm_qld); (try unfold vm_qst); (try unfold vm_alen); (try unfold vm_newi); (try unfold vm_newq); (try unfold vm_new); (try unfold vm_dup); (try unfold vm_dup2); (try unfold vm_pop); (try unfold vm_i2l); (try unfold vm_l2i); (try unfold vm_oin); (try unfold vm_sln); (try unfold vm_sch); (repeat' split) <;> first | exact trivial | exact ⟨Nat.le_refl _, Nat.le_refl _⟩ | exact ⟨Nat.le_succ _, Nat.le_add_right _ _⟩)
  rw [h] at G
  exact G
theorem vm_run_mono : ∀ (F d mid pc : Nat) (ls : vm_L) (st : List Value) (w : vm_W) (v : Option Value) (wF : vm_W), vm_run F d mid pc ls st w = some (v, wF) → w.1 ≤ wF.1 ∧ w.2.1 ≤ wF.2.1 := by
  intro F
  induction F with
  | zero => intro d mid pc ls st w v wF h; cases h
  | succ F ih =>
    intro d mid pc ls st w v wF h
    rw [vm_run] at h
    split at h
    · cases h
    · split at h
      · cases h
      · split at h
        · cases h; exact ⟨Nat.le_refl _, Nat.le_refl _⟩
        · split at h
          · split at h
            · cases h
            · split at h
              · split at h
                · cases h
                · split at h
                  · split at h
                    · cases h
                    · rename_i h1
                      have a1 := ih _ _ _ _ _ _ _ _ h1
                      have a2 := ih _ _ _ _ _ _ _ _ h
                      exact ⟨Nat.le_trans a1.1 a2.1, Nat.le_trans a1.2 a2.2⟩
                  · cases h
              · cases h
          · split at h
            · cases h
            · rename_i h1
              have a1 := vm_step_mono h1
              have a2 := ih _ _ _ _ _ _ _ _ h
              exact ⟨Nat.le_trans a1.1 a2.1, Nat.le_trans a1.2 a2.2⟩
end
section
/-! a run of the pure machine, from any of its frames, is one of the real machine; a method's run is its contract -/
def vm_rm (d mc ms : Nat) : Room := { frames := d, cells := mc, slots := ms, locals := 40 * d + 20 }
def vm_ws (r : vm_M) : List Cond := .code r.2.1 r.2.2.1 r.2.2.2.1 r.2.2.2.2.1 :: vm_G
def vm_I0 (κ : Nat → ClassId) (D : va_G) (base b adS adV L : Nat) (xs : Nat → Int32) (U : State) : Prop :=
  va_K D vwCl [(κ 0, .int), (κ 1, .object RX0)] U ∧ va_AO RX0 U ∧ (∀ q ∈ vm_nest, va_Nw (.methodLinkNest q.1 q.2.1 q.2.2.1 q.2.2.2) U) ∧ va_X b L xs U U.heap ∧ b < base ∧ base ≤ U.heap.size ∧ vm_SI adS adV base U
def vm_Pc (κ : Nat → ClassId) (D : va_G) (base b adS adV L : Nat) (xs : Nat → Int32) (as : List Value) (w : vm_W) : Array Value → State → Prop := fun a U => a = (as.map (vm_v (vm_r base b adS))).toArray ∧ vm_I0 κ D base b adS adV L xs U ∧ vm_H D κ base b adS L xs w U.heap
def vm_Qc (κ : Nat → ClassId) (D : va_G) (base b adS L : Nat) (xs : Nat → Int32) (v : Option Value) (w : vm_W) : Array Value → State → Outcome → State → Prop := fun _ st o t => o = .returned (v.map (vm_v (vm_r base b adS))) ∧ vm_H D κ base b adS L xs w t.heap ∧ st.heap.size ≤ t.heap.size ∧ ∀ q : Nat, q < base → t.heap[q]? = st.heap[q]?
theorem vm_ent_in {ρ : Nat → Nat} : ∀ (as : List Value) (k n : Nat) (i : Nat) (v : Value), vm_ld (vm_args as ++ List.replicate n none) i = some v → (k + i, vm_v ρ v) ∈ lv_args k (as.map (vm_v ρ)) := by
  intro as
  induction as with
  | nil =>
    intro k n i v h
    exfalso
    induction n generalizing i with
    | zero => cases h
    | succ n ih =>
      cases i with
      | zero => cases h
      | succ i => exact ih i h
  | cons a t ih =>
    intro k n i v h
    show (k + i, vm_v ρ v) ∈ (k, vm_v ρ a) :: lv_args (if (vm_v ρ a).category = 2 then k + 2 else k + 1) (t.map (vm_v ρ))
    by_cases hc : a.category = 2
    · rw [if_pos ((vm_v_cat ρ a).trans hc)]
      have e : vm_args (a :: t) = some a :: none :: vm_args t := by unfold vm_args; rw [List.flatMap_cons, if_pos hc]; rfl
      rw [e] at h
      match i, h with
      | 0, h => injection h with h; subst h; exact List.mem_cons_self
      | 1, h => cases h
      | i + 2, h =>
        have := ih (k + 2) n i v h
        rw [show k + (i + 2) = k + 2 + i by omega]
        exact List.mem_cons_of_mem _ this
    · rw [if_neg (fun z => hc ((vm_v_cat ρ a).symm.trans z))]
      have e : vm_args (a :: t) = some a :: vm_args t := by unfold vm_args; rw [List.flatMap_cons, if_neg hc]; rfl
      rw [e] at h
      match i, h with
      | 0, h => injection h with h; subst h; exact List.mem_cons_self
      | i + 1, h =>
        have := ih (k + 1) n i v h
        rw [show k + (i + 1) = k + 1 + i by omega]
        exact List.mem_cons_of_mem _ this
theorem vm_args_len {ρ : Nat → Nat} : ∀ as : List Value, (lg_sl (as.map (vm_v ρ))).length = (vm_args as).length := by
  intro as
  induction as with
  | nil => rfl
  | cons a t ih =>
    show ((if (vm_v ρ a).category = 2 then _ else _) ++ lg_sl (t.map (vm_v ρ))).length = ((if a.category = 2 then _ else _) ++ vm_args t).length
    rw [List.length_append, List.length_append, ih, vm_v_cat]
    split <;> rfl
theorem vm_entry {ρ : Nat → Nat} {as : List Value} {n : Nat} (h : (vm_args as).length ≤ n) : vm_LV ρ ((lg_sl (as.map (vm_v ρ)) ++ List.replicate (n - (lg_sl (as.map (vm_v ρ))).length) Slot.unset).toArray) n (vm_ent n as) := by
  have hl := lv_entry (as.map (vm_v ρ)) (n := n) (by rw [vm_args_len]; exact h)
  refine ⟨?_, hl.1, hl.2.1, fun i v hv => ?_⟩
  · unfold vm_ent
    rw [List.length_append, List.length_replicate]; omega
  · have := vm_ent_in (ρ := ρ) as 0 _ i v hv
    rw [Nat.zero_add] at this
    exact hl.2.2 _ this
/-- what a run owes: W from its frame, given W from its end -/
def vm_Run (l : Launch) (F : Nat) : Prop := ∀ (d mid pc : Nat) (ls : vm_L) (st : List Value) (w : vm_W) (v : Option Value) (wF : vm_W), vm_run F d mid pc ls st w = some (v, wF) → ∀ (r : vm_M), vm_MT[mid]? = some r →
  ∀ (p : Program) (e : Env) (R : Room) (s : State) (m : MethodId) (args : Array Value) (below : List Frame) (meth : Method) (c : Code) (H : Heap) (locs : List Loc) (Q : State → Prop) (κ : Nat → ClassId) (D : va_G) (base b adS adV L : Nat) (xs : Nat → Int32) (n0 k0 : Nat) (lsr : Array Slot),
  vm_C D κ base b adS adV L xs p s m args meth c r → d ≤ R.frames ∧ 40 * d + 20 ≤ R.locals → n0 ≤ w.1 ∧ k0 ≤ w.2.1 → wF.1 ≤ n0 + R.cells ∧ wF.2.1 ≤ k0 + R.slots → vm_LV (vm_r base b adS) lsr r.2.2.2.1 ls → vm_T D κ base b adS L xs s.heap w H locs →
  (∀ (q : vm_I) (st1 : List Value) (lsr1 : Array Slot) (H1 : Heap) (locs1 : List Loc), q ∈ r.2.2.2.2.2 → vm_ret r q st1 = some v → vm_T D κ base b adS L xs s.heap wF H1 locs1 → W p l e R s m args below meth c H1 locs1 (wF.1 - n0) (wF.2.1 - k0) Q (F0 m q.1 lsr1 (st1.map (vm_v (vm_r base b adS))))) →
  W p l e R s m args below meth c H locs (w.1 - n0) (w.2.1 - k0) Q (F0 m pc lsr (st.map (vm_v (vm_r base b adS))))
theorem vm_ret_i {r : vm_M} {q : vm_I} {st : List Value} {v : Option Value} (h : vm_ret r q st = some v) :
    (∃ x, q.2.1 = .ireturn ∧ st = [.int x] ∧ v = some (.int x) ∧ ∃ ty, r.2.2.2.2.1 = some ty ∧ narrow ty (.int x) = .int x) ∨
    (∃ x n, q.2.1 = .areturn ∧ st = [.ref x] ∧ v = some (.ref x) ∧ r.2.2.2.2.1 = some (.object n)) ∨
    (q.2.1 = .return_ ∧ st = [] ∧ v = none ∧ r.2.2.2.2.1 = none) := by
  obtain ⟨pc, i, len, a, b, cn⟩ := q
  cases i
  case ireturn =>
    simp only [vm_ret] at h
    split at h
    · rename_i x
      split at h
      · rename_i hty
        cases h
        exact Or.inl ⟨_, rfl, rfl, rfl, _, hty, rfl⟩
      · rename_i hty
        split at h
        · rename_i hx
          cases h
          refine Or.inl ⟨_, rfl, rfl, rfl, _, hty, ?_⟩
          rcases hx with rfl | rfl <;> rfl
        · cases h
      · cases h
    · cases h
  case areturn =>
    simp only [vm_ret] at h
    split at h
    · rename_i x
      split at h
      · rename_i n hty
        cases h
        exact Or.inr (Or.inl ⟨_, n, rfl, rfl, rfl, hty⟩)
      · cases h
    · cases h
  case return_ =>
    simp only [vm_ret] at h
    split at h
    · split at h
      · rename_i hty
        cases h
        exact Or.inr (Or.inr ⟨rfl, rfl, rfl, hty⟩)
      · cases h
    · cases h
  all_goals exact absurd (show (none : Option (Option Value)) = some v from h) (fun h => by cases h)
theorem vm_len1 {r : vm_M} {o : Nat} {q : vm_I} {cc : ByteArray} {i : Instr} (hchk : ∀ q ∈ r.2.2.2.2.2, vm_chk o q = true) (hq : q ∈ r.2.2.2.2.2) (hi : q.2.1 = .ireturn ∨ q.2.1 = .areturn ∨ q.2.1 = .return_) (hdg : decode cc q.1 = .ok (i, q.2.2.1)) : decode cc q.1 = .ok (i, 1) := by
  have h := hchk q hq
  unfold vm_chk at h
  rw [Bool.and_eq_true, beq_iff_eq] at h
  have e : q.2.2.1 = 1 := by
    rw [h.1]
    rcases hi with hi | hi | hi <;> rw [hi] <;> rfl
  rw [e] at hdg
  exact hdg
theorem vm_met (l : Launch) {F d mid : Nat} (IH : vm_Run l F) {r : vm_M} (hr : vm_MT[mid]? = some r) (hlt : mid < 205) {as : List Value} {w wF : vm_W} {v : Option Value} (hrun : vm_run F d mid 0 (vm_ent r.2.2.2.1 as) [] w = some (v, wF)) (hlen : (vm_args as).length ≤ r.2.2.2.1)
    (κ : Nat → ClassId) (D : va_G) (base b adS adV L : Nat) (xs : Nat → Int32) :
    Met l r.2.1 (vm_ws r) (vm_rm d (wF.1 - w.1) (wF.2.1 - w.2.1)) (vm_Pc κ D base b adS adV L xs as w) (vm_Qc κ D base b adS L xs v wF) (wF.1 - w.1) (wF.2.1 - w.2.1) (fun q => base ≤ q) := by
  have hmf := vm_callee hlt hr
  have hok := vm_MT_ok r (List.mem_of_getElem? hr)
  have hmono := vm_run_mono _ _ _ _ _ _ _ _ _ hrun
  refine va_MetF (cc := r.2.2.1) (maxL := r.2.2.2.1) (ret := r.2.2.2.2.1) hmf.1 rfl ?_
  intro p e s m args below meth c s₁ B hml hP
  obtain ⟨rfl, ⟨hK, hAO, hN, hX, hbb, hbs, hSI⟩, hH⟩ := hP
  have hts := atoms_spec (ws := vm_ws r) B.pre
  obtain ⟨o, ho, hdec, hchk, hm20, hcl⟩ := hok
  have hown : s.vm.findClass r.1 = some m.cls := by rw [← hcl]; exact findClass_of_methodNamed B.named
  have hlocks := B.notSynchronized
  have C : vm_C D κ base b adS adV L xs p s m (as.map (vm_v (vm_r base b adS))).toArray meth c r := ⟨B.exec, B.bytes, hml, hown, fun x h => hts x (List.mem_cons_of_mem _ h), hK, hAO, hN, fun z => (name_of_methodNamed B.named B.method).1.trans z, B.returns, B.notSynchronized, hX, hbb, hSI⟩
  rw [lg_entry_eq]
  have K := IH d mid 0 _ [] w v wF hrun r hr p e (vm_rm d (wF.1 - w.1) (wF.2.1 - w.2.1)) s m _ below meth c s.heap [] (MQ below (vm_Qc κ D base b adS L xs v wF) (as.map (vm_v (vm_r base b adS))).toArray s (wF.1 - w.1) (wF.2.1 - w.2.1) (fun q => base ≤ q)) κ D base b adS adV L xs w.1 w.2.1 _ C ⟨Nat.le_refl _, Nat.le_refl _⟩ ⟨Nat.le_refl _, Nat.le_refl _⟩ ⟨by show wF.1 ≤ w.1 + (wF.1 - w.1); omega, by show wF.2.1 ≤ w.2.1 + (wF.2.1 - w.2.1); omega⟩ (vm_entry hlen) ⟨hH, ⟨hbs, Nat.le_refl _⟩, fun _ _ => rfl, fun _ h => by cases h⟩ ?_
  · rw [Nat.sub_self, Nat.sub_self] at K
    exact K
  · intro q st1 lsr1 H1 locs1 hq hret hT1
    have hdg := hdec q hq
    obtain ⟨t1, t2, t3, t4⟩ := hT1
    rcases vm_ret_i hret with ⟨x, e1, rfl, rfl, ty, e3, e4⟩ | ⟨x, n, e1, rfl, rfl, e3⟩ | ⟨e1, rfl, rfl, e3⟩
    · rw [e1] at hdg
      exact W.zret (ty := ty) B.exec B.bytes (B.returns.trans e3) e4 (fun t ht hW => ⟨rfl, by rw [ht]; exact t1, by rw [ht]; exact t2.2, fun q hq => by rw [ht]; exact t3 q hq⟩) t4 (vm_len1 hchk hq (Or.inl e1) hdg)
    · rw [e1] at hdg
      exact W.aret B.exec B.bytes (B.returns.trans e3) (Or.inl ⟨_, rfl⟩) (Or.inr ⟨_, rfl⟩) (fun t ht hW => ⟨rfl, by rw [ht]; exact t1, by rw [ht]; exact t2.2, fun q hq => by rw [ht]; exact t3 q hq⟩) t4 (vm_len1 hchk hq (Or.inr (Or.inl e1)) hdg)
    · rw [e1] at hdg
      exact W.vret B.exec B.bytes (B.returns.trans e3) (fun t ht hW => ⟨rfl, by rw [ht]; exact t1, by rw [ht]; exact t2.2, fun q hq => by rw [ht]; exact t3 q hq⟩) t4 (vm_len1 hchk hq (Or.inr (Or.inr e1)) hdg)
end
section
/-! THE SOUNDNESS of the pure machine, by induction on the fuel -/
theorem vm_map_app {ρ : Nat → Nat} (v : Option Value) (rest : List Value) : (v.toList ++ rest).map (vm_v ρ) = (v.map (vm_v ρ)).toList ++ rest.map (vm_v ρ) := by cases v <;> rfl
theorem vm_cats {ρ : Nat → Nat} {st0 : List Value} (h : (st0.map fun v => v.category).sum ≤ 8) : ((st0.map (vm_v ρ)).map fun v => v.category).sum ≤ 8 := by
  rw [List.map_map]
  have : ((fun v : Value => v.category) ∘ vm_v ρ) = fun v => v.category := by funext v; exact vm_v_cat _ v
  rw [this]; exact h
theorem vm_Pc_of {p : Program} {s : State} {m : MethodId} {args : Array Value} {meth : Method} {c : Code} {H : Heap} {locs : List Loc} {D : va_G} {κ : Nat → ClassId} {base b adS adV L : Nat} {xs : Nat → Int32} {r : vm_M} {w : vm_W} {as : List Value}
    (C : vm_C D κ base b adS adV L xs p s m args meth c r) (hT : vm_T D κ base b adS L xs s.heap w H locs) (U : State) (hU : U.heap = H) (hW : s.WarmedH U.vm) : vm_Pc κ D base b adS adV L xs as w (as.map (vm_v (vm_r base b adS))).toArray U := by
  obtain ⟨hx, hb, hml, hown, hts, hK, hAO, hN, hnm, hret, hlk, hX, hbb, hSI⟩ := C
  obtain ⟨t1, t2, t3, t4⟩ := hT
  refine ⟨rfl, ⟨va_K.moved hW.alike hK, hAO.moved hW.alike, fun q hq => va_Nw.warmM hW (hN q hq), ?_, hbb, ?_, vm_SI_mv hSI hW t2.1 hU t3⟩, by rw [hU]; exact t1⟩
  · rw [hU]; exact (hX.moved hW.alike).kept (t3 b hbb)
  · rw [hU, t1.1]; exact Nat.le_add_right _ _
theorem vm_go {p : Program} {l : Launch} {e : Env} {R : Room} {s : State} {m : MethodId} {args : Array Value} {below : List Frame} {meth : Method} {c : Code} {H : Heap} {locs : List Loc} {Q : State → Prop} {D : va_G} {κ : Nat → ClassId} {base b adS L : Nat} {xs : Nat → Int32} {lsr : Array Slot} {w w1 : vm_W} {pc n0 k0 : Nat} {st rest : List Value} {v1 : Option Value} {a : Array Value}
    (hn : n0 ≤ w.1 ∧ k0 ≤ w.2.1) (hm : w.1 ≤ w1.1 ∧ w.2.1 ≤ w1.2.1) (hT : vm_T D κ base b adS L xs s.heap w H locs)
    (run : va_Run p l e R s m args below meth c H locs (w.1 - n0) (w.2.1 - k0) (w1.1 - w.1) (w1.2.1 - w.2.1) (F0 m pc lsr st) (rest.map (vm_v (vm_r base b adS))) (vm_Qc κ D base b adS L xs v1 w1 a) (fun q => base ≤ q))
    (kk : ∀ H' locs', vm_T D κ base b adS L xs s.heap w1 H' locs' → W p l e R s m args below meth c H' locs' (w1.1 - n0) (w1.2.1 - k0) Q (F0 m (pc + 3) lsr ((v1.toList ++ rest).map (vm_v (vm_r base b adS))))) :
    W p l e R s m args below meth c H locs (w.1 - n0) (w.2.1 - k0) Q (F0 m pc lsr st) := by
  obtain ⟨t1, t2, t3, t4⟩ := hT
  intro T hT' X
  obtain ⟨v, st₀, t, T', L', h0, X', hL', e1, e2, ⟨q1, q2, q3, q4⟩, stp⟩ := run T hT' X
  cases q1
  have a1 : w.1 - n0 + (w1.1 - w.1) = w1.1 - n0 := by omega
  have a2 : w.2.1 - k0 + (w1.2.1 - w.2.1) = w1.2.1 - k0 := by omega
  rw [a1, a2] at X'
  obtain ⟨t2', b1, b2⟩ := kk T'.heap (locs ++ L') ⟨by rw [e1]; exact q2, ⟨t2.1, Nat.le_trans t2.2 (by rw [e1, ← h0]; exact q3)⟩, fun q hq => by rw [e1, q4 q hq, h0]; exact t3 q hq, fun q hq => (List.mem_append.mp hq).elim (t4 q) (hL' q)⟩ T' rfl X'
  rw [vm_map_app] at b1
  exact ⟨t2', stp t2' b1, b2⟩
set_option maxHeartbeats 4000000 in
theorem vm_run_W (l : Launch) : ∀ F : Nat, vm_Run l F := by
  intro F
  induction F with
  | zero => intro d mid pc ls st w v wF h; cases h
  | succ F IH =>
    intro d mid pc ls st w v wF h r hr p e R s m args below meth c H locs Q κ D base b adS adV L xs n0 k0 lsr C hd hn hcap hLV hT hend
    rw [vm_run, hr] at h
    dsimp only at h
    have hok := vm_MT_ok r (List.mem_of_getElem? hr)
    split at h
    · cases h
    · rename_i q hq
      obtain ⟨hqin, hqpc⟩ := vm_find_in hq
      subst hqpc
      split at h
      · rename_i v' hv
        cases h
        exact hend q st lsr H locs hqin hv hT
      · split at h
        · rename_i mid' as rest hcall
          split at h
          · cases h
          · rename_i d'
            split at h
            · rename_i hlt
              split at h
              · cases h
              · rename_i r' hr'
                split at h
                · rename_i hlen
                  split at h
                  · cases h
                  · rename_i v1 w1 h1
                    have M := vm_met l IH hr' hlt h1 hlen κ D base b adS adV L xs
                    have m1 := vm_run_mono _ _ _ _ _ _ _ _ _ h1
                    have m2 := vm_run_mono _ _ _ _ _ _ _ _ _ h
                    have K : ∀ H' locs', vm_T D κ base b adS L xs s.heap w1 H' locs' → W p l e R s m args below meth c H' locs' (w1.1 - n0) (w1.2.1 - k0) Q (F0 m (q.1 + 3) lsr ((v1.toList ++ rest).map (vm_v (vm_r base b adS)))) := fun H' locs' hT' =>
                      IH (d' + 1) mid (q.1 + 3) ls (v1.toList ++ rest) w1 v wF h r hr p e R s m args below meth c H' locs' Q κ D base b adS adV L xs n0 k0 lsr C hd ⟨by omega, by omega⟩ hcap hLV hT' hend
                    have CC := C
                    obtain ⟨hx, hb, hml, hown, hts, hK, hAO, hN, hnm, hret, hlk, hX, hbb, hSI⟩ := C
                    obtain ⟨o, ho, hdec, hchk, hm20, hcl⟩ := hok
                    have hok' := vm_MT_ok r' (List.mem_of_getElem? hr')
                    obtain ⟨o', ho', -, -, hm20', hcl'⟩ := hok'
                    obtain ⟨hpl, hcode, hini, hy1, hy2⟩ := vm_callee hlt hr'
                    have hgood : GoodIn vm_G (vm_ws r') := fun x hxm => (List.mem_cons.mp hxm).elim (fun z => z ▸ vm_GG _ hcode) (fun z => vm_GG x z)
                    have hRm : (vm_rm d' (w1.1 - w.1) (w1.2.1 - w.2.1)).frames + 1 ≤ R.frames ∧ 8 + (r'.2.2.2.1 + 11) + (vm_rm d' (w1.1 - w.1) (w1.2.1 - w.2.1)).locals ≤ R.locals := ⟨hd.1, by show 8 + (r'.2.2.2.1 + 11) + (40 * d' + 20) ≤ R.locals; omega⟩
                    have hfit : w.1 - n0 + (w1.1 - w.1) ≤ R.cells ∧ w.2.1 - k0 + (w1.2.1 - w.2.1) ≤ R.slots := ⟨by omega, by omega⟩
                    have hdg := hdec q hqin
                    have hch := hchk q hqin
                    unfold vm_chk at hch
                    rw [Bool.and_eq_true, beq_iff_eq] at hch
                    obtain ⟨hlenq, hch⟩ := hch
                    have bl : FrameBlind (vm_Pc κ D base b adS adV L xs as w) := fun a U g mk z => z
                    refine vm_go (a := (as.map (vm_v (vm_r base b adS))).toArray) hn m1 hT ?_ K
                    rcases vm_call_i hcall with ⟨x, i, as', fs, e1, e2, rfl, rfl, e3, e4, e5, e6, rfl⟩ | ⟨x, e1, rfl, e3, e6, rfl⟩ | ⟨x, i, as', e1, e2, rfl, rfl, e3, e6, rfl⟩
                    · rw [e1] at hdg hch hlenq
                      rw [show q.2.2.1 = 3 from hlenq] at hdg
                      have hch : (decide ((o, x, q.2.2.2.1, q.2.2.2.2.1, q.2.2.2.2.2) ∈ vm_cT) && _) = true := hch
                      rw [Bool.and_eq_true] at hch
                      obtain ⟨own, r2, g1, g2, g3, g4, g5⟩ := vm_cT_ok _ (of_decide_eq_true hch.1)
                      cases ho.symm.trans g1
                      cases hr'.symm.trans g2
                      have e2' : q.2.2.2.1 = 0 := e2
                      rw [e2'] at g3 g4 g5
                      obtain ⟨l1, l2, l3⟩ := g3
                      have g4 := g4 (by decide)
                      have g5 := g5 rfl
                      obtain ⟨cq, hcq, hcn⟩ : ∃ cq, vwCl[q.2.2.2.2.2 / 100]? = some cq ∧ cq.1 = r'.2.1.cls := by
                        cases hz : vwCl[q.2.2.2.2.2 / 100]? with
                        | none => have g5 : (vwCl[q.2.2.2.2.2 / 100]?).map (fun x => x.1) = some r'.2.1.cls := g5; rw [hz] at g5; cases g5
                        | some cq => have g5 : (vwCl[q.2.2.2.2.2 / 100]?).map (fun x => x.1) = some r'.2.1.cls := g5; rw [hz] at g5; exact ⟨cq, rfl, Option.some.inj g5⟩
                      have hi : i < 1000 := Nat.lt_of_lt_of_le e4 hT.1.2.1
                      have cb : CallB R s args r.1 x r'.2.1 r'.2.2.1 r'.2.2.2.1 r'.2.2.2.2.1 (vm_ws r') (vm_rm d' (w1.1 - w.1) (w1.2.1 - w.2.1)) (w1.1 - w.1) (w1.2.1 - w.2.1) (q.2.2.2.2.2 % 100) := callB_of _ hts hgood rfl rfl rfl (hts _ hini) (hts _ l1) ⟨hy1, hy2, g4⟩ hRm
                      have hrec : ∃ cellB : Cell, H[vm_r base b adS i]? = some cellB ∧ cellB.vm.isStatics = false ∧ s.vm.findClass r'.2.1.cls = some cellB.cls := by
                        rw [vm_r_lt hi, ← hcn]
                        exact va_recv hK (vm_va_at hT.1 e4 e5) (q0 := 0) hcq rfl
                      exact va_runV (As := as'.map (vm_v (vm_r base b adS))) (C := r'.2.1.cls) (b := vm_r base b adS i) ⟨hx, hb, hml, hown, hts⟩ M ⟨cb, hts _ l2, hts _ l3⟩ ⟨bl, hrec, fun U hU hW => vm_Pc_of CC hT U hU hW⟩ rfl (by rw [List.length_map]; exact e3) hLV.2.1
                        (by show (as'.reverse ++ .ref i :: rest).map _ = _; rw [List.map_append, List.map_reverse]; rfl) (by show 2 * 0 + _ ≤ 8; have := vm_cats (ρ := vm_r base b adS) e6; omega) hdg hfit
                    · rw [e1] at hdg hch hlenq
                      rw [show q.2.2.1 = 3 from hlenq] at hdg
                      have hch : (decide ((o, x, q.2.2.2.1, q.2.2.2.2.1, q.2.2.2.2.2) ∈ vm_cT) && (q.2.2.2.1 == 1 || q.2.2.2.1 == 3)) = true := hch
                      rw [Bool.and_eq_true, Bool.or_eq_true, beq_iff_eq, beq_iff_eq] at hch
                      obtain ⟨own, r2, g1, g2, g3, g4, g5⟩ := vm_cT_ok _ (of_decide_eq_true hch.1)
                      cases ho.symm.trans g1
                      cases hr'.symm.trans g2
                      have g3 : vm_link r.1 x q.2.2.2.1 r' := g3
                      have g4 : q.2.2.2.1 < 5 → (parseMethodDescriptor r'.2.1.desc).map (fun d => d.parameters.length) = some (q.2.2.2.2.2 % 100) := g4
                      rcases hch.2 with e2 | e2
                      · rw [e2] at g3 g4
                        obtain ⟨l1, l2⟩ := g3
                        have cb : CallB R s args r.1 x r'.2.1 r'.2.2.1 r'.2.2.2.1 r'.2.2.2.2.1 (vm_ws r') (vm_rm d' (w1.1 - w.1) (w1.2.1 - w.2.1)) (w1.1 - w.1) (w1.2.1 - w.2.1) (q.2.2.2.2.2 % 100) := callB_of _ hts hgood rfl rfl rfl (hts _ hini) (hts _ l1) ⟨hy1, hy2, g4 (by decide)⟩ hRm
                        exact va_runS (As := as.map (vm_v (vm_r base b adS))) ⟨hx, hb, hml, hown, hts⟩ M ⟨cb, hts _ l2⟩ ⟨bl, fun U hU hW => vm_Pc_of CC hT U hU hW⟩ rfl (by rw [List.length_map]; exact e3) hLV.2.1
                          (by show (as.reverse ++ rest).map _ = _; rw [List.map_append, List.map_reverse]) (by show 2 * 0 + _ ≤ 8; have := vm_cats (ρ := vm_r base b adS) e6; omega) hdg hfit
                      · rw [e2] at g3 g4
                        obtain ⟨⟨hh, l1⟩, l2⟩ := g3
                        have cb := va_cnB (R := R) (q.2.2.2.2.2 % 100) hts hgood rfl (rm := vm_rm d' (w1.1 - w.1) (w1.2.1 - w.2.1)) rfl rfl (hN _ l1) (hts _ hini) ⟨hy1, hy2, g4 (by decide)⟩ hRm
                        exact va_runSN (As := as.map (vm_v (vm_r base b adS))) ⟨hx, hb, hml, hown, hts⟩ M ⟨cb, hts _ l2, trivial⟩ ⟨bl, fun U hU hW => vm_Pc_of CC hT U hU hW⟩ rfl (by rw [List.length_map]; exact e3) hLV.2.1
                          (by show (as.reverse ++ rest).map _ = _; rw [List.map_append, List.map_reverse]) (by show 2 * 0 + _ ≤ 8; have := vm_cats (ρ := vm_r base b adS) e6; omega) hdg hfit
                    · rw [e1] at hdg hch hlenq
                      rw [show q.2.2.1 = 3 from hlenq] at hdg
                      have hch : (decide ((o, x, q.2.2.2.1, q.2.2.2.2.1, q.2.2.2.2.2) ∈ vm_cT) && _) = true := hch
                      rw [Bool.and_eq_true] at hch
                      obtain ⟨own, r2, g1, g2, g3, g4, g5⟩ := vm_cT_ok _ (of_decide_eq_true hch.1)
                      cases ho.symm.trans g1
                      cases hr'.symm.trans g2
                      have g3 : vm_link r.1 x q.2.2.2.1 r' := g3
                      have g4 : q.2.2.2.1 < 5 → (parseMethodDescriptor r'.2.1.desc).map (fun d => d.parameters.length) = some (q.2.2.2.2.2 % 100) := g4
                      rcases e2 with e2 | e2
                      · rw [e2] at g3 g4
                        obtain ⟨l1, l2, l3, l4⟩ := g3
                        have cb : CallB R s args r.1 x r'.2.1 r'.2.2.1 r'.2.2.2.1 none (vm_ws r') (vm_rm d' (w1.1 - w.1) (w1.2.1 - w.2.1)) (w1.1 - w.1) (w1.2.1 - w.2.1) (q.2.2.2.2.2 % 100) := callB_of _ hts hgood (by unfold vm_ws; rw [l4]) rfl rfl (hts _ hini) (hts _ l1) ⟨hy1, hy2, g4 (by decide)⟩ hRm
                        exact va_runI (As := as'.map (vm_v (vm_r base b adS))) (b := vm_r base b adS i) ⟨hx, hb, hml, hown, hts⟩ M ⟨cb, l3, hts _ l2⟩ ⟨bl, fun U hU hW => vm_Pc_of CC hT U hU hW⟩ rfl (by rw [List.length_map]; exact e3) hLV.2.1
                          (by show (as'.reverse ++ .ref i :: rest).map _ = _; rw [List.map_append, List.map_reverse]; rfl) (by show 2 * 0 + _ ≤ 8; have := vm_cats (ρ := vm_r base b adS) e6; omega) hdg hfit
                      · rw [e2] at g3 g4
                        obtain ⟨⟨hh, l1⟩, l2, l3, l4⟩ := g3
                        have cb : va_CN R s args r.1 x r'.2.1 hh r'.2.2.1 r'.2.2.2.1 none (vm_ws r') (vm_rm d' (w1.1 - w.1) (w1.2.1 - w.2.1)) (w1.1 - w.1) (w1.2.1 - w.2.1) (q.2.2.2.2.2 % 100) := va_cnB (q.2.2.2.2.2 % 100) hts hgood (by unfold vm_ws; rw [l4]) rfl rfl (hN _ l1) (hts _ hini) ⟨hy1, hy2, g4 (by decide)⟩ hRm
                        exact va_runIN (As := as'.map (vm_v (vm_r base b adS))) (b := vm_r base b adS i) ⟨hx, hb, hml, hown, hts⟩ M ⟨cb, l3, hts _ l2⟩ ⟨bl, fun U hU hW => vm_Pc_of CC hT U hU hW⟩ rfl (by rw [List.length_map]; exact e3) hLV.2.1
                          (by show (as'.reverse ++ .ref i :: rest).map _ = _; rw [List.map_append, List.map_reverse]; rfl) (by show 2 * 0 + _ ≤ 8; have := vm_cats (ρ := vm_r base b adS) e6; omega) hdg hfit
                · cases h
            · cases h
        · split at h
          · cases h
          · rename_i pc' ls' st' w' hstep
            have m1 := vm_step_mono hstep
            have m2 := vm_run_mono _ _ _ _ _ _ _ _ _ h
            exact vm_step_W C hok hqin hd hstep hn ⟨by omega, by omega⟩ (fun lsr' H' locs' hLV' hT' => IH d mid pc' ls' st' w' v wF h r hr p e R s m args below meth c H' locs' Q κ D base b adS adV L xs n0 k0 lsr' C hd ⟨by omega, by omega⟩ hcap hLV' hT' hend) hLV hT
end
section
/-! THE CLAIM OUT OF ONE WALK OF THE LAW'S BODY. Your part is whole_start (and what it stands on); all else here is the same for every law, but numbers. -/
def R_law : String := "EmberTaleLaw"
def lw_P (b : Addr) (xs : List Int32) (args : Array Value) (s : State) : Prop := args = #[.ref b] ∧ s.IntsAt b xs ∧ xs.length ≤ 2560 ∧ (Jvm.Cond.and given_1 narrow_1).before args s = true
def lw_Q (_ : Array Value) (s : State) (o : Outcome) (t : State) : Prop := o = .returned (some (.int 1)) ∧ Framed s o t [] 600000 7302250
def lw_Z (below : List Frame) (a : Array Value) (s : State) : State → Prop := fun t => ∃ o, t.status = .running ∧ Ended t below o ∧ lw_Q a s o t
/-- the law's own end, with 1 on the stack, nothing written that was there before, its room as the claim has it -/
theorem lw_ret {p : Program} {l : Launch} {e : Env} {s : State} {m : MethodId} {below : List Frame} {meth : Method} {c : Code} {b : Nat} (hx : p.tables.exec = Jvm.exec) (hb : c.code = code) (hr : meth.sig.returnType = ret) (hlocks : meth.locks = false) {pc : Nat} {H : Heap} {ls : Array Slot} (hdg : decode code pc = .ok (.ireturn, 1)) : W p l e room_1 s m #[Value.ref b] below meth c H [] 600000 7302250 (lw_Z below #[Value.ref b] s) (F0 m pc ls [.int 1]) := by
  intro T hT X
  obtain ⟨fs, hret, hrun, hended, hW, hframe⟩ := X.leave (v := some (.int 1)) (hlocks := hlocks) (fun h => by rw [hr] at h; cases h)
  have hmeth' : T.vm.method? m = some meth := X.method'
  refine ⟨T.setFrames fs, ?_, .returned (some (.int 1)), hrun, hended, rfl, ⟨_, rfl⟩, hW, hframe⟩
  jvm_step X.here [X.here.top, hx, hb, hdg, hmeth', hr, ret, narrow_b1]
  (try refine ⟨rfl, ?_⟩); (try refine ⟨rfl, ?_⟩)
  first | (intro acts; rw [hret _ acts rfl rfl rfl]) | rw [hret _ _ rfl rfl rfl]
  exact Steps.refl _
/-- what holds at the law's entry: the machine, the code, the tables' words (any of lw_tbl by 'hts w (by decide +kernel)'), the script of L ints xs at the cell b, what the Statement gives of the start (any of its parts by flat_of_before) -/
def lw_At (p : Program) (s : State) (m : MethodId) (meth : Method) (c : Code) (b L : Nat) (xs : Nat → Int32) : Prop :=
  p.tables.exec = Jvm.exec ∧ c.code = code ∧ meth.sig.returnType = ret ∧ c.maxLocals = 4 ∧ s.vm.findClass R_law = some m.cls ∧ (∀ w ∈ lw_tbl, w.before #[Value.ref b] s = true) ∧ va_X b L xs s s.heap ∧ b < s.heap.size ∧ meth.locks = false ∧ (Jvm.Cond.and given_1 narrow_1).before #[Value.ref b] s = true
-- ===== YOUR PART BEGINS =====
theorem vm_made : ∀ a, a < 11 → ∃ o i, vm_nf o i a := by
  intro a h
  match a, h with
  | 0, _ => exact ⟨_, _, vm_n6⟩
  | 1, _ => exact ⟨_, _, vm_n18⟩
  | 2, _ => exact ⟨_, _, vm_n15⟩
  | 3, _ => exact ⟨_, _, vm_n17⟩
  | 4, _ => exact ⟨_, _, vm_n14⟩
  | 5, _ => exact ⟨_, _, vm_n0⟩
  | 6, _ => exact ⟨_, _, vm_n13⟩
  | 7, _ => exact ⟨_, _, vm_n5⟩
  | 8, _ => exact ⟨_, _, vm_n16⟩
  | 9, _ => exact ⟨_, _, vm_n19⟩
  | 10, _ => exact ⟨_, _, vm_n20⟩
def vm_w0 (L : Nat) (xs : Nat → Int32) : vm_W := (0, 0, fun i => if i = vm_scr then .inl (L, xs) else .inr (.inr (100, [])))
theorem vm_K0 {s : State} {args : Array Value} (hts : ∀ w ∈ vm_G, w.before args s = true) (hAO : va_AO RX0 s) : ∃ (D : va_G) (κ : Nat → ClassId), va_K D vwCl [(κ 0, .int), (κ 1, .object RX0)] s := by
  classical
  have hk : ∀ a, a < 11 → ∀ q : vw_C, vwCl[a]? = some q → ∃ (cC : ClassId) (iS : Nat → Nat), u_Kn s q.1 q.2.1 q.2.2 cC iS := by
    intro a ha q hq
    obtain ⟨C, T, N, h1, h2, -, -⟩ := vm_clsA a ha
    cases hq.symm.trans h1
    obtain ⟨o, i, hi⟩ := vm_made a ha
    obtain ⟨own, C', T', N', -, g2, -, g4, -⟩ := hi
    cases hq.symm.trans g2
    exact u_known hts h2 (hts _ g4)
  have hk2 : ∃ (dC : Nat → ClassId) (dI : Nat → Nat → Nat), ∀ (k : Nat) (q : vw_C), vwCl[k]? = some q → u_Kn s q.1 q.2.1 q.2.2 (dC k) (dI k) := by
    refine ⟨fun k => if h : ∃ (cC : ClassId) (iS : Nat → Nat), ∀ q : vw_C, vwCl[k]? = some q → u_Kn s q.1 q.2.1 q.2.2 cC iS then h.choose else 0, fun k => if h : ∃ (cC : ClassId) (iS : Nat → Nat), ∀ q : vw_C, vwCl[k]? = some q → u_Kn s q.1 q.2.1 q.2.2 cC iS then h.choose_spec.choose else fun _ => 0, ?_⟩
    intro k q hq
    have ha : k < 11 := (List.getElem?_eq_some_iff.mp hq).1
    have h : ∃ (cC : ClassId) (iS : Nat → Nat), ∀ q : vw_C, vwCl[k]? = some q → u_Kn s q.1 q.2.1 q.2.2 cC iS := by
      obtain ⟨cC, iS, h⟩ := hk k ha q hq
      exact ⟨cC, iS, fun q' hq' => by cases hq.symm.trans hq'; exact h⟩
    dsimp only
    rw [dif_pos h, dif_pos h]
    exact h.choose_spec.choose_spec q hq
  obtain ⟨dC, dI, hKc⟩ := hk2
  obtain ⟨cI, kI, compI, i1, i2, i3⟩ := Cond.arrayClass_spec (show (Cond.arrayClass .int).holds args s none s [] = true from hts _ vm_arrI)
  obtain ⟨compC, cC, kC, c1, -, c3, c4, c5⟩ := Cond.arrayOver_spec (show (Cond.arrayOver (.object RX0)).holds #[] s none s [] = true from hAO)
  refine ⟨(dC, dI), fun k => if k = 0 then cI else cC, hKc, fun k q hq => ?_⟩
  match k, hq with
  | 0, hq =>
    cases hq
    exact ⟨fun n z => ⟨fun k h => (by cases h), kI, i2, compI, i3⟩, i1⟩
  | 1, hq =>
    cases hq
    exact ⟨fun n z => ⟨fun k h => (by cases h), kC, c3, compC, c4⟩, kC, compC, c3, c4, c1, c5⟩
  | k + 2, hq => simp at hq
theorem vm_SI0 {s : State} {b : Nat} (hts : ∀ w ∈ lw_tbl, w.before #[Value.ref b] s = true) (hgv : (Jvm.Cond.and given_1 narrow_1).before #[Value.ref b] s = true) : ∃ adS adV, vm_SI adS adV s.heap.size s := by
  sorry
theorem vm_nest0 {s : State} {b : Nat} (hts : ∀ w ∈ lw_tbl, w.before #[Value.ref b] s = true) : ∀ q ∈ vm_nest, va_Nw (.methodLinkNest q.1 q.2.1 q.2.2.1 q.2.2.2) s := by
  sorry
theorem vm_AO0 {s : State} {b : Nat} (hts : ∀ w ∈ lw_tbl, w.before #[Value.ref b] s = true) : va_AO RX0 s := by
  sorry
theorem vm_law : ∀ (L : Nat) (xs : Nat → Int32), L ≤ 2560 → ∃ F wF, vm_run F 2000 205 0 (vm_ent 4 [.ref vm_scr]) [] (vm_w0 L xs) = some (some (.int 1), wF) ∧ wF.1 ≤ 600000 ∧ wF.2.1 ≤ 7302250 := by
  sorry
theorem whole_start {p : Program} {e : Env} {s : State} {m : MethodId} {below : List Frame} {meth : Method} {c : Code} (l : Launch) (hflags : l.flags = flags0) {b L : Nat} {xs : Nat → Int32} (hL : L ≤ 2560) (C0 : lw_At p s m meth c b L xs) : W p l e room_1 s m #[Value.ref b] below meth c s.heap [] 0 0 (lw_Z below #[Value.ref b] s) (entryFrame m ([Value.ref b] : List Value).toArray 4) := by
  obtain ⟨hx, hb, hr, hml, hown, hts, hX, hbl, hlocks, hgv⟩ := id C0
  have hG : ∀ w ∈ vm_G, w.before #[Value.ref b] s = true := fun w h => hts w (wsL_law_in w h)
  have hAO := vm_AO0 hts
  obtain ⟨D, κ, hK⟩ := vm_K0 hG hAO
  obtain ⟨adS, adV, hSI⟩ := vm_SI0 hts hgv
  obtain ⟨F, wF, hrun, hc1, hc2⟩ := vm_law L xs hL
  have C : vm_C D κ s.heap.size b adS adV L xs p s m #[Value.ref b] meth c vm_m205 := ⟨hx, hb, hml, hown, hG, hK, hAO, vm_nest0 hts, fun z => absurd z (by decide), hr, hlocks, hX, hbl, hSI⟩
  have hH0 : vm_H D κ s.heap.size b adS L xs (vm_w0 L xs) s.heap := ⟨rfl, Nat.zero_le _, rfl, fun i hi => absurd hi (Nat.not_lt_zero _)⟩
  have K := vm_run_W l F 2000 205 0 (vm_ent 4 [.ref vm_scr]) [] (vm_w0 L xs) _ wF hrun vm_m205 rfl p e room_1 s m #[Value.ref b] below meth c s.heap [] (lw_Z below #[Value.ref b] s) κ D s.heap.size b adS adV L xs 0 0 _ C ⟨by decide, by decide⟩ ⟨Nat.le_refl _, Nat.le_refl _⟩ ⟨by show wF.1 ≤ 0 + 600000; omega, by show wF.2.1 ≤ 0 + 7302250; omega⟩ (vm_entry (by decide)) ⟨hH0, ⟨Nat.le_refl _, Nat.le_refl _⟩, fun _ _ => rfl, fun _ h => by cases h⟩ ?_
  · rw [lg_entry_eq]
    exact K
  · intro q st1 lsr1 H1 locs1 hq hret hT1
    obtain ⟨t1, t2, t3, t4⟩ := hT1
    obtain ⟨o, ho, hdec, hchk, hm20, hcl⟩ := vm_o205
    have hdg := hdec q hq
    rcases vm_ret_i hret with ⟨x, e1, rfl, e2, ty, e3, e4⟩ | ⟨x, n, e1, rfl, e2, e3⟩ | ⟨e1, rfl, e2, e3⟩
    · cases e2
      rw [e1] at hdg
      refine va_forget t4 (W.widen (k := 600000) (n := 7302250) (by omega) (by omega) ?_)
      exact lw_ret hx hb hr hlocks (vm_len1 hchk hq (Or.inl e1) hdg)
    · cases e2
    · cases e2
end
section
set_option maxHeartbeats 4000000 in
theorem lw_walk (l : Launch) (hflags : l.flags = flags0) (b : Addr) (xs : List Int32) : MetFree l x (headSpec (Jvm.Cond.code x code maxLocals ret :: tables_1) room_1) (lw_P b xs) (fun _ _ _ _ _ => True) lw_Q := by
  refine MetFree.of_bodyS (code := code) (maxLocals := maxLocals) (ret := ret) (by decide) ?_ ?_
  · intro args s m h hn
    obtain ⟨meth, c, h1, h2, h3, h4, h5, h6, -, -⟩ := Cond.code_spec hn (atoms_spec (ws := Jvm.Cond.code x code maxLocals ret :: tables_1) h _ List.mem_cons_self)
    exact ⟨meth, c, h1, h2, h3, h4, h5, h6⟩
  · intro p e s m args below meth c s₁ B hml0 hP _
    obtain ⟨rfl, hx, hbd, hgv⟩ := hP
    obtain ⟨scr, harrAt, hlist, hof, hsmall⟩ := hx
    obtain ⟨hcb, hkn, -, -⟩ := State.arrayAt?_spec harrAt
    have hown : s.vm.findClass R_law = some m.cls := findClass_of_methodNamed B.named
    have hts0 : ∀ c ∈ (Jvm.Cond.code x code maxLocals ret :: tables_1), c.before #[Value.ref b] s = true := atoms_spec (ws := Jvm.Cond.code x code maxLocals ret :: tables_1) B.pre
    have hts : ∀ w ∈ lw_tbl, w.before #[Value.ref b] s = true := k2_hts_sels lw_privs (fun w hw => hts0 w (List.mem_cons_of_mem _ hw)) lw_privs_ok
    have hml : c.maxLocals = 4 := B.maxLocals_eq (hts0 _ List.mem_cons_self)
    have X₀ : Stand p l e room_1 s m #[Value.ref b] below meth c s₁ [] 0 0 := Stand.of_body B
    have hh0 : s₁.heap = s.heap := by rw [B.state]; rfl
    have hsz : scr.slots.size = xs.length := by rw [← Array.length_toList, hlist, List.length_map]
    have hval : ∀ j : Nat, j < xs.length → scr.slots[j]? = some (.int (xs.getD j 0)) := fun j hj => by
      rw [← Array.getElem?_toList, hlist]
      simp [hj]
    have hbl : b < s.heap.size := (Array.getElem?_eq_some_iff.mp hcb).1
    have hX : va_X b xs.length (fun j => xs.getD j 0) s s.heap := ⟨scr, hcb, hof, hkn, hsz, hval⟩
    have K : W p l e room_1 s m #[Value.ref b] below meth c s₁.heap [] 0 0 (lw_Z below #[Value.ref b] s) (entryFrame m ([Value.ref b] : List Value).toArray 4) := by
      rw [hh0]
      exact whole_start l hflags hbd ⟨B.exec, B.bytes, B.returns, hml, hown, hts, hX, hbl, B.notSynchronized, hgv⟩
    obtain ⟨t, a1, o, b1, b2, b3⟩ := K s₁ rfl X₀
    exact ⟨t, o, a1, b1, b2, b3⟩
theorem lw_pre_spec {args : Array Value} {s : State} (h : (Jvm.Cond.and given_1 narrow_1).before args s = true) (hr : rest_1_c.before args s = true) : ∃ (b : Addr) (xs : List Int32), lw_P b xs args s := by
  have hs := flat_of_before _ h
  have hq := flat_of_before _ hr
  have hc : (Cond.count 1).before args s = true := hs _ (by decide +kernel)
  have harr : (Cond.arrayOf (.arg 0) .int).before args s = true := hs _ (by decide +kernel)
  have hle : (Cond.le (.length (.arg 0)) (.int 2560)).before args s = true := hs _ (by decide +kernel)
  have hlen : (Cond.isInt (.length (.arg 0))).before args s = true := hq _ (by decide +kernel)
  have hall : (Cond.all (.arg 0) (.isInt (.elem (.arg 0) (.index 0)))).before args s = true := hq _ (by decide +kernel)
  obtain ⟨b, xs, hb, hx⟩ := State.ints_of_pre rfl harr hlen hall
  have hsm : xs.length < 2 ^ 31 := hx.choose_spec.2.2.2
  have hev : (Term.length (.arg 0)).eval args s none [] s = some (.int xs.length.toInt32) := hx.length_eval hb
  have hv := Cond.le_ints hev (show (Term.int 2560).eval args s none [] s = some (.int 2560) from rfl)
  have hd : xs.length.toInt32 ≤ 2560 := by
    simpa [Cond.before, Cond.holds, hv] using hle
  have hN : xs.length ≤ 2560 := (Int32.ofNat_le_ofNat hsm (by decide)).mp (show Int32.ofNat xs.length ≤ Int32.ofNat 2560 from hd)
  exact ⟨b, xs, Cond.one_arg hc (show args[0]? = some (.ref b) from hb), hx, hN, h⟩
theorem lw_comes (l : Launch) (hflags : l.flags = flags0) : Comes l x (Jvm.Cond.code x code maxLocals ret :: tables_1) room_1 (fun tb e args s => Calls_1 tb e args s ∧ rest_1 tb e args s ∧ Pre_1 tb e args s)
    (fun _ _ args s o t => lw_Q args s o t) := by
  intro p e ha hc hk s m args below hf hfit hheap happ hpre
  obtain ⟨b, xs, hP⟩ := lw_pre_spec hpre.2.2 hpre.2.1
  obtain ⟨k, o, h1, h2, h3, hQ⟩ := lw_walk l hflags b xs p e ha hc hk s m args below hf ((Spec.applies_iff_loose hf).mp happ).1 hP trivial
  exact ⟨k, o, h1, h2, h3, hQ⟩
theorem lw_frame {s t : State} {o : Outcome} {args : Array Value} (h : Framed s o t [] 600000 7302250) :
    Framed s o t (fieldLocs frame_1_writes args s ++ arrayLocs frame_1_arrays args s ++ staticLocs frame_1_statics s) 600000 7302250 := h
theorem lw_limb (L : Cond) (hL : ∀ (args : Array Value) (s t : State), L.after args s (.returned (some (.int 1))) t = true) :
    ArmFor flags0 classFile x code maxLocals ret World_1 tables_1 room_1 Calls_1 rest_1 Pre_1
      (fun tb e a s o t => postC L tb e a s o t ∧ Framed s o t (fieldLocs frame_1_writes a s ++ arrayLocs frame_1_arrays a s ++ staticLocs frame_1_statics s) 600000 7302250) := by
  intro l hflags _ _ p e ha hc hk s m args below hf hfit hheap happ hpre
  obtain ⟨k, o, h1, h2, h3, rfl, hF⟩ := lw_comes l hflags p e ha hc hk s m args below hf hfit hheap happ hpre
  exact ⟨k, _, h1, h2, h3, hL args s _, lw_frame hF⟩
theorem i_vc : Claimed_1_1 ∧ Claimed_1_2 := ⟨lw_limb limb_1_1 (fun args s t => by simp [limb_1_1, Cond.after, Cond.holds, Cond.value]), lw_limb limb_1_2 (fun args s t => Cond.after_iff.mpr (by
  first | (rw [show limb_1_2 = Cond.eq .result (.int 1) from rfl, Cond.eq_ints (x := 1) (y := 1) rfl rfl]; simp; done) | (simp [limb_1_2, Cond.value, Term.eval]; done)))⟩
end
