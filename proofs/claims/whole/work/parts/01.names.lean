/-! ===== BEGIN words of one list among another's, by their places ===== -/
theorem goodIn_r {big : List Cond} (ws : List Cond) (ps : List Nat) (hp : ws = ps.filterMap (fun i => big[i]?)) (h : ws.all goodWord = true) : GoodIn big ws := by
  intro w hw
  have h1 := List.all_eq_true.mp h w hw
  rw [hp] at hw
  obtain ⟨i, -, hi⟩ := List.mem_filterMap.mp hw
  have hm : w ∈ big := by first | exact List.mem_of_getElem? hi | exact List.getElem?_mem hi
  exact ⟨hm, good_of_word h1⟩
theorem goodIn_app {big a b : List Cond} (ha : GoodIn big a) (hb : GoodIn big b) : GoodIn big (a ++ b) := fun w h => (List.mem_append.mp h).elim (ha w) (hb w)
theorem goodIn_ca {big a b : List Cond} {c : Cond} (ha : GoodIn big (c :: a)) (hb : GoodIn big b) : GoodIn big (c :: (a ++ b)) := fun w h => (List.mem_cons.mp h).elim (fun e => ha w (List.mem_cons.mpr (Or.inl e))) (fun h => (List.mem_append.mp h).elim (fun h => ha w (List.mem_cons.mpr (Or.inr h))) (hb w))
theorem goodIn_sub {big ws : List Cond} (hm : ∀ w ∈ ws, w ∈ big) (h : ws.all goodWord = true) : GoodIn big ws := fun w hw => ⟨hm w hw, good_of_word (List.all_eq_true.mp h w hw)⟩
/-! ===== END ===== -/
-- ===== PART A: goes FIRST, ahead of the names: the tables' words, and 'selects' of the private methods out of them =====
/-- a private method of a class that the tables say can be made, by its rows of tables_1 -/
def lw_okq (q : MethodName × Nat) : Prop := (q.1.cls ≠ "java/lang/invoke/MethodHandle" ∧ q.1.cls ≠ "java/lang/invoke/VarHandle") ∧ Cond.instantiable q.1.cls q.2 ∈ tables_1 ∧ Cond.privateMethod q.1 ∈ tables_1 ∧ Cond.instanceMethod q.1 ∈ tables_1
theorem lw_p0 : lw_okq (⟨"EmberTale", "layText", "()Z"⟩, 12) := ⟨⟨by decide +kernel, by decide +kernel⟩, List.mem_of_getElem? (i := 19) (by decide +kernel), List.mem_of_getElem? (i := 280) (by decide +kernel), List.mem_of_getElem? (i := 281) (by decide +kernel)⟩
theorem lw_p1 : lw_okq (⟨"EmberTale$Reader", "readItem", "()Z"⟩, 5) := ⟨⟨by decide +kernel, by decide +kernel⟩, List.mem_of_getElem? (i := 106) (by decide +kernel), List.mem_of_getElem? (i := 305) (by decide +kernel), List.mem_of_getElem? (i := 306) (by decide +kernel)⟩
theorem lw_p2 : lw_okq (⟨"EmberTale$Reader", "take", "()I"⟩, 5) := ⟨⟨by decide +kernel, by decide +kernel⟩, List.mem_of_getElem? (i := 106) (by decide +kernel), List.mem_of_getElem? (i := 309) (by decide +kernel), List.mem_of_getElem? (i := 310) (by decide +kernel)⟩
theorem lw_p3 : lw_okq (⟨"EmberTale$Reader", "readFigures", "(I)Z"⟩, 5) := ⟨⟨by decide +kernel, by decide +kernel⟩, List.mem_of_getElem? (i := 106) (by decide +kernel), List.mem_of_getElem? (i := 317) (by decide +kernel), List.mem_of_getElem? (i := 318) (by decide +kernel)⟩
theorem lw_p4 : lw_okq (⟨"EmberTale$Reader", "readNumbers", "(I)Z"⟩, 5) := ⟨⟨by decide +kernel, by decide +kernel⟩, List.mem_of_getElem? (i := 106) (by decide +kernel), List.mem_of_getElem? (i := 336) (by decide +kernel), List.mem_of_getElem? (i := 337) (by decide +kernel)⟩
theorem lw_p5 : lw_okq (⟨"EmberTale$Reader", "readNumber", "()I"⟩, 5) := ⟨⟨by decide +kernel, by decide +kernel⟩, List.mem_of_getElem? (i := 106) (by decide +kernel), List.mem_of_getElem? (i := 340) (by decide +kernel), List.mem_of_getElem? (i := 341) (by decide +kernel)⟩
theorem lw_p6 : lw_okq (⟨"EmberTale$Shelf", "slotOf", "(I)LEmberTale$Camp;"⟩, 3) := ⟨⟨by decide +kernel, by decide +kernel⟩, List.mem_of_getElem? (i := 86) (by decide +kernel), List.mem_of_getElem? (i := 528) (by decide +kernel), List.mem_of_getElem? (i := 529) (by decide +kernel)⟩
theorem lw_p7 : lw_okq (⟨"EmberTale$Camp", "change", "(III)V"⟩, 3) := ⟨⟨by decide +kernel, by decide +kernel⟩, List.mem_of_getElem? (i := 68) (by decide +kernel), List.mem_of_getElem? (i := 538) (by decide +kernel), List.mem_of_getElem? (i := 539) (by decide +kernel)⟩
theorem lw_p8 : lw_okq (⟨"EmberTale$Camp", "set", "(III)V"⟩, 3) := ⟨⟨by decide +kernel, by decide +kernel⟩, List.mem_of_getElem? (i := 68) (by decide +kernel), List.mem_of_getElem? (i := 542) (by decide +kernel), List.mem_of_getElem? (i := 543) (by decide +kernel)⟩
theorem lw_p9 : lw_okq (⟨"EmberTale$Camp", "setHot", "(II)V"⟩, 3) := ⟨⟨by decide +kernel, by decide +kernel⟩, List.mem_of_getElem? (i := 68) (by decide +kernel), List.mem_of_getElem? (i := 560) (by decide +kernel), List.mem_of_getElem? (i := 561) (by decide +kernel)⟩
theorem lw_p10 : lw_okq (⟨"EmberTale", "areTwo", "(II)Z"⟩, 12) := ⟨⟨by decide +kernel, by decide +kernel⟩, List.mem_of_getElem? (i := 19) (by decide +kernel), List.mem_of_getElem? (i := 585) (by decide +kernel), List.mem_of_getElem? (i := 586) (by decide +kernel)⟩
theorem lw_p11 : lw_okq (⟨"EmberTale$Keeper", "isKept", "(IIII)Z"⟩, 5) := ⟨⟨by decide +kernel, by decide +kernel⟩, List.mem_of_getElem? (i := 134) (by decide +kernel), List.mem_of_getElem? (i := 656) (by decide +kernel), List.mem_of_getElem? (i := 657) (by decide +kernel)⟩
theorem lw_p12 : lw_okq (⟨"EmberTale$Keeper", "isKeptBy", "(IIII)Z"⟩, 5) := ⟨⟨by decide +kernel, by decide +kernel⟩, List.mem_of_getElem? (i := 134) (by decide +kernel), List.mem_of_getElem? (i := 660) (by decide +kernel), List.mem_of_getElem? (i := 661) (by decide +kernel)⟩
theorem lw_p13 : lw_okq (⟨"EmberTale$Tale", "oneStepOn", "(I)I"⟩, 5) := ⟨⟨by decide +kernel, by decide +kernel⟩, List.mem_of_getElem? (i := 44) (by decide +kernel), List.mem_of_getElem? (i := 686) (by decide +kernel), List.mem_of_getElem? (i := 687) (by decide +kernel)⟩
theorem lw_p14 : lw_okq (⟨"EmberTale$Teller", "isTold", "(III)Z"⟩, 5) := ⟨⟨by decide +kernel, by decide +kernel⟩, List.mem_of_getElem? (i := 158) (by decide +kernel), List.mem_of_getElem? (i := 698) (by decide +kernel), List.mem_of_getElem? (i := 699) (by decide +kernel)⟩
theorem lw_p15 : lw_okq (⟨"EmberTale$Teller", "isToldBy", "(IIII)Z"⟩, 5) := ⟨⟨by decide +kernel, by decide +kernel⟩, List.mem_of_getElem? (i := 158) (by decide +kernel), List.mem_of_getElem? (i := 702) (by decide +kernel), List.mem_of_getElem? (i := 703) (by decide +kernel)⟩
def lw_privs_1 : List (MethodName × Nat) := [(⟨"EmberTale", "layText", "()Z"⟩, 12), (⟨"EmberTale$Reader", "readItem", "()Z"⟩, 5), (⟨"EmberTale$Reader", "take", "()I"⟩, 5), (⟨"EmberTale$Reader", "readFigures", "(I)Z"⟩, 5), (⟨"EmberTale$Reader", "readNumbers", "(I)Z"⟩, 5), (⟨"EmberTale$Reader", "readNumber", "()I"⟩, 5), (⟨"EmberTale$Shelf", "slotOf", "(I)LEmberTale$Camp;"⟩, 3), (⟨"EmberTale$Camp", "change", "(III)V"⟩, 3), (⟨"EmberTale$Camp", "set", "(III)V"⟩, 3), (⟨"EmberTale$Camp", "setHot", "(II)V"⟩, 3), (⟨"EmberTale", "areTwo", "(II)Z"⟩, 12), (⟨"EmberTale$Keeper", "isKept", "(IIII)Z"⟩, 5), (⟨"EmberTale$Keeper", "isKeptBy", "(IIII)Z"⟩, 5), (⟨"EmberTale$Tale", "oneStepOn", "(I)I"⟩, 5), (⟨"EmberTale$Teller", "isTold", "(III)Z"⟩, 5), (⟨"EmberTale$Teller", "isToldBy", "(IIII)Z"⟩, 5)]
theorem lw_r1 : ∀ q ∈ lw_privs_1, lw_okq q := List.forall_mem_cons.mpr ⟨lw_p0, List.forall_mem_cons.mpr ⟨lw_p1, List.forall_mem_cons.mpr ⟨lw_p2, List.forall_mem_cons.mpr ⟨lw_p3, List.forall_mem_cons.mpr ⟨lw_p4, List.forall_mem_cons.mpr ⟨lw_p5, List.forall_mem_cons.mpr ⟨lw_p6, List.forall_mem_cons.mpr ⟨lw_p7, List.forall_mem_cons.mpr ⟨lw_p8, List.forall_mem_cons.mpr ⟨lw_p9, List.forall_mem_cons.mpr ⟨lw_p10, List.forall_mem_cons.mpr ⟨lw_p11, List.forall_mem_cons.mpr ⟨lw_p12, List.forall_mem_cons.mpr ⟨lw_p13, List.forall_mem_cons.mpr ⟨lw_p14, List.forall_mem_cons.mpr ⟨lw_p15, fun _ h => absurd h List.not_mem_nil⟩⟩⟩⟩⟩⟩⟩⟩⟩⟩⟩⟩⟩⟩⟩⟩
theorem lw_p16 : lw_okq (⟨"EmberTale$Meeter", "reach", "(IIII)V"⟩, 6) := ⟨⟨by decide +kernel, by decide +kernel⟩, List.mem_of_getElem? (i := 182) (by decide +kernel), List.mem_of_getElem? (i := 724) (by decide +kernel), List.mem_of_getElem? (i := 725) (by decide +kernel)⟩
theorem lw_p17 : lw_okq (⟨"EmberTale$Meeter", "traceBack", "(I)I"⟩, 6) := ⟨⟨by decide +kernel, by decide +kernel⟩, List.mem_of_getElem? (i := 182) (by decide +kernel), List.mem_of_getElem? (i := 732) (by decide +kernel), List.mem_of_getElem? (i := 733) (by decide +kernel)⟩
theorem lw_p18 : lw_okq (⟨"EmberTale", "wouldHelp", "(IIII)Z"⟩, 12) := ⟨⟨by decide +kernel, by decide +kernel⟩, List.mem_of_getElem? (i := 19) (by decide +kernel), List.mem_of_getElem? (i := 750) (by decide +kernel), List.mem_of_getElem? (i := 751) (by decide +kernel)⟩
theorem lw_p19 : lw_okq (⟨"EmberTale$Tale", "endOf", "(ILEmberTale$Row;)I"⟩, 5) := ⟨⟨by decide +kernel, by decide +kernel⟩, List.mem_of_getElem? (i := 44) (by decide +kernel), List.mem_of_getElem? (i := 770) (by decide +kernel), List.mem_of_getElem? (i := 771) (by decide +kernel)⟩
theorem lw_p20 : lw_okq (⟨"EmberTale$Tale", "lengthenWays", "()V"⟩, 5) := ⟨⟨by decide +kernel, by decide +kernel⟩, List.mem_of_getElem? (i := 44) (by decide +kernel), List.mem_of_getElem? (i := 784) (by decide +kernel), List.mem_of_getElem? (i := 785) (by decide +kernel)⟩
theorem lw_p21 : lw_okq (⟨"EmberTale$Chance", "burn", "(III)V"⟩, 3) := ⟨⟨by decide +kernel, by decide +kernel⟩, List.mem_of_getElem? (i := 209) (by decide +kernel), List.mem_of_getElem? (i := 801) (by decide +kernel), List.mem_of_getElem? (i := 802) (by decide +kernel)⟩
theorem lw_p22 : lw_okq (⟨"EmberTale$Chance", "addWays", "(II)V"⟩, 3) := ⟨⟨by decide +kernel, by decide +kernel⟩, List.mem_of_getElem? (i := 209) (by decide +kernel), List.mem_of_getElem? (i := 807) (by decide +kernel), List.mem_of_getElem? (i := 808) (by decide +kernel)⟩
theorem lw_p23 : lw_okq (⟨"EmberTaleModel", "begins", "()V"⟩, 23) := ⟨⟨by decide +kernel, by decide +kernel⟩, List.mem_of_getElem? (i := 859) (by decide +kernel), List.mem_of_getElem? (i := 871) (by decide +kernel), List.mem_of_getElem? (i := 872) (by decide +kernel)⟩
theorem lw_p24 : lw_okq (⟨"EmberTaleModel", "reads", "()I"⟩, 23) := ⟨⟨by decide +kernel, by decide +kernel⟩, List.mem_of_getElem? (i := 859) (by decide +kernel), List.mem_of_getElem? (i := 962) (by decide +kernel), List.mem_of_getElem? (i := 963) (by decide +kernel)⟩
theorem lw_p25 : lw_okq (⟨"EmberTaleModel", "readsItem", "()Z"⟩, 23) := ⟨⟨by decide +kernel, by decide +kernel⟩, List.mem_of_getElem? (i := 859) (by decide +kernel), List.mem_of_getElem? (i := 966) (by decide +kernel), List.mem_of_getElem? (i := 967) (by decide +kernel)⟩
theorem lw_p26 : lw_okq (⟨"EmberTaleModel", "here", "()I"⟩, 23) := ⟨⟨by decide +kernel, by decide +kernel⟩, List.mem_of_getElem? (i := 859) (by decide +kernel), List.mem_of_getElem? (i := 970) (by decide +kernel), List.mem_of_getElem? (i := 971) (by decide +kernel)⟩
theorem lw_p27 : lw_okq (⟨"EmberTaleModel", "readsLine", "()Z"⟩, 23) := ⟨⟨by decide +kernel, by decide +kernel⟩, List.mem_of_getElem? (i := 859) (by decide +kernel), List.mem_of_getElem? (i := 974) (by decide +kernel), List.mem_of_getElem? (i := 975) (by decide +kernel)⟩
theorem lw_p28 : lw_okq (⟨"EmberTaleModel", "readsRain", "()Z"⟩, 23) := ⟨⟨by decide +kernel, by decide +kernel⟩, List.mem_of_getElem? (i := 859) (by decide +kernel), List.mem_of_getElem? (i := 983) (by decide +kernel), List.mem_of_getElem? (i := 984) (by decide +kernel)⟩
theorem lw_p29 : lw_okq (⟨"EmberTaleModel", "number", "(II)Z"⟩, 23) := ⟨⟨by decide +kernel, by decide +kernel⟩, List.mem_of_getElem? (i := 859) (by decide +kernel), List.mem_of_getElem? (i := 987) (by decide +kernel), List.mem_of_getElem? (i := 988) (by decide +kernel)⟩
theorem lw_p30 : lw_okq (⟨"EmberTaleModel", "readsCompany", "()Z"⟩, 23) := ⟨⟨by decide +kernel, by decide +kernel⟩, List.mem_of_getElem? (i := 859) (by decide +kernel), List.mem_of_getElem? (i := 991) (by decide +kernel), List.mem_of_getElem? (i := 992) (by decide +kernel)⟩
theorem lw_p31 : lw_okq (⟨"EmberTaleModel", "takes", "(I)Z"⟩, 23) := ⟨⟨by decide +kernel, by decide +kernel⟩, List.mem_of_getElem? (i := 859) (by decide +kernel), List.mem_of_getElem? (i := 995) (by decide +kernel), List.mem_of_getElem? (i := 996) (by decide +kernel)⟩
def lw_privs_2 : List (MethodName × Nat) := [(⟨"EmberTale$Meeter", "reach", "(IIII)V"⟩, 6), (⟨"EmberTale$Meeter", "traceBack", "(I)I"⟩, 6), (⟨"EmberTale", "wouldHelp", "(IIII)Z"⟩, 12), (⟨"EmberTale$Tale", "endOf", "(ILEmberTale$Row;)I"⟩, 5), (⟨"EmberTale$Tale", "lengthenWays", "()V"⟩, 5), (⟨"EmberTale$Chance", "burn", "(III)V"⟩, 3), (⟨"EmberTale$Chance", "addWays", "(II)V"⟩, 3), (⟨"EmberTaleModel", "begins", "()V"⟩, 23), (⟨"EmberTaleModel", "reads", "()I"⟩, 23), (⟨"EmberTaleModel", "readsItem", "()Z"⟩, 23), (⟨"EmberTaleModel", "here", "()I"⟩, 23), (⟨"EmberTaleModel", "readsLine", "()Z"⟩, 23), (⟨"EmberTaleModel", "readsRain", "()Z"⟩, 23), (⟨"EmberTaleModel", "number", "(II)Z"⟩, 23), (⟨"EmberTaleModel", "readsCompany", "()Z"⟩, 23), (⟨"EmberTaleModel", "takes", "(I)Z"⟩, 23)]
theorem lw_r2 : ∀ q ∈ lw_privs_2, lw_okq q := List.forall_mem_cons.mpr ⟨lw_p16, List.forall_mem_cons.mpr ⟨lw_p17, List.forall_mem_cons.mpr ⟨lw_p18, List.forall_mem_cons.mpr ⟨lw_p19, List.forall_mem_cons.mpr ⟨lw_p20, List.forall_mem_cons.mpr ⟨lw_p21, List.forall_mem_cons.mpr ⟨lw_p22, List.forall_mem_cons.mpr ⟨lw_p23, List.forall_mem_cons.mpr ⟨lw_p24, List.forall_mem_cons.mpr ⟨lw_p25, List.forall_mem_cons.mpr ⟨lw_p26, List.forall_mem_cons.mpr ⟨lw_p27, List.forall_mem_cons.mpr ⟨lw_p28, List.forall_mem_cons.mpr ⟨lw_p29, List.forall_mem_cons.mpr ⟨lw_p30, List.forall_mem_cons.mpr ⟨lw_p31, fun _ h => absurd h List.not_mem_nil⟩⟩⟩⟩⟩⟩⟩⟩⟩⟩⟩⟩⟩⟩⟩⟩
theorem lw_p32 : lw_okq (⟨"EmberTaleModel", "areTold", "()Z"⟩, 23) := ⟨⟨by decide +kernel, by decide +kernel⟩, List.mem_of_getElem? (i := 859) (by decide +kernel), List.mem_of_getElem? (i := 1003) (by decide +kernel), List.mem_of_getElem? (i := 1004) (by decide +kernel)⟩
theorem lw_p33 : lw_okq (⟨"EmberTaleModel", "isLine", "(I)Z"⟩, 23) := ⟨⟨by decide +kernel, by decide +kernel⟩, List.mem_of_getElem? (i := 859) (by decide +kernel), List.mem_of_getElem? (i := 1014) (by decide +kernel), List.mem_of_getElem? (i := 1015) (by decide +kernel)⟩
theorem lw_p34 : lw_okq (⟨"EmberTaleModel", "behind", "(II)I"⟩, 23) := ⟨⟨by decide +kernel, by decide +kernel⟩, List.mem_of_getElem? (i := 859) (by decide +kernel), List.mem_of_getElem? (i := 1022) (by decide +kernel), List.mem_of_getElem? (i := 1023) (by decide +kernel)⟩
theorem lw_p35 : lw_okq (⟨"EmberTaleModel", "rainAt", "(I)I"⟩, 23) := ⟨⟨by decide +kernel, by decide +kernel⟩, List.mem_of_getElem? (i := 859) (by decide +kernel), List.mem_of_getElem? (i := 1031) (by decide +kernel), List.mem_of_getElem? (i := 1032) (by decide +kernel)⟩
theorem lw_p36 : lw_okq (⟨"EmberTaleModel", "isCompany", "(I)Z"⟩, 23) := ⟨⟨by decide +kernel, by decide +kernel⟩, List.mem_of_getElem? (i := 859) (by decide +kernel), List.mem_of_getElem? (i := 1039) (by decide +kernel), List.mem_of_getElem? (i := 1040) (by decide +kernel)⟩
theorem lw_p37 : lw_okq (⟨"EmberTaleModel", "remember", "()V"⟩, 23) := ⟨⟨by decide +kernel, by decide +kernel⟩, List.mem_of_getElem? (i := 859) (by decide +kernel), List.mem_of_getElem? (i := 1050) (by decide +kernel), List.mem_of_getElem? (i := 1051) (by decide +kernel)⟩
theorem lw_p38 : lw_okq (⟨"EmberTaleModel", "puts", "([III)V"⟩, 23) := ⟨⟨by decide +kernel, by decide +kernel⟩, List.mem_of_getElem? (i := 859) (by decide +kernel), List.mem_of_getElem? (i := 1054) (by decide +kernel), List.mem_of_getElem? (i := 1055) (by decide +kernel)⟩
theorem lw_p39 : lw_okq (⟨"EmberTaleModel", "hourGoes", "([I)V"⟩, 23) := ⟨⟨by decide +kernel, by decide +kernel⟩, List.mem_of_getElem? (i := 859) (by decide +kernel), List.mem_of_getElem? (i := 1069) (by decide +kernel), List.mem_of_getElem? (i := 1070) (by decide +kernel)⟩
theorem lw_p40 : lw_okq (⟨"EmberTaleModel", "insOf", "([I)I"⟩, 23) := ⟨⟨by decide +kernel, by decide +kernel⟩, List.mem_of_getElem? (i := 859) (by decide +kernel), List.mem_of_getElem? (i := 1076) (by decide +kernel), List.mem_of_getElem? (i := 1077) (by decide +kernel)⟩
theorem lw_p41 : lw_okq (⟨"EmberTaleModel", "isIn", "(I)Z"⟩, 23) := ⟨⟨by decide +kernel, by decide +kernel⟩, List.mem_of_getElem? (i := 859) (by decide +kernel), List.mem_of_getElem? (i := 1094) (by decide +kernel), List.mem_of_getElem? (i := 1095) (by decide +kernel)⟩
theorem lw_p42 : lw_okq (⟨"EmberTaleModel", "mayHand", "(III)Z"⟩, 23) := ⟨⟨by decide +kernel, by decide +kernel⟩, List.mem_of_getElem? (i := 859) (by decide +kernel), List.mem_of_getElem? (i := 1102) (by decide +kernel), List.mem_of_getElem? (i := 1103) (by decide +kernel)⟩
theorem lw_p43 : lw_okq (⟨"EmberTaleModel", "layLogs", "(I)V"⟩, 23) := ⟨⟨by decide +kernel, by decide +kernel⟩, List.mem_of_getElem? (i := 859) (by decide +kernel), List.mem_of_getElem? (i := 1119) (by decide +kernel), List.mem_of_getElem? (i := 1120) (by decide +kernel)⟩
theorem lw_p44 : lw_okq (⟨"EmberTaleModel", "keeps", "(II)I"⟩, 23) := ⟨⟨by decide +kernel, by decide +kernel⟩, List.mem_of_getElem? (i := 859) (by decide +kernel), List.mem_of_getElem? (i := 1123) (by decide +kernel), List.mem_of_getElem? (i := 1124) (by decide +kernel)⟩
theorem lw_p45 : lw_okq (⟨"EmberTaleModel", "keptBy", "(III)I"⟩, 23) := ⟨⟨by decide +kernel, by decide +kernel⟩, List.mem_of_getElem? (i := 859) (by decide +kernel), List.mem_of_getElem? (i := 1128) (by decide +kernel), List.mem_of_getElem? (i := 1129) (by decide +kernel)⟩
theorem lw_p46 : lw_okq (⟨"EmberTaleModel", "giveBack", "(I)I"⟩, 23) := ⟨⟨by decide +kernel, by decide +kernel⟩, List.mem_of_getElem? (i := 859) (by decide +kernel), List.mem_of_getElem? (i := 1132) (by decide +kernel), List.mem_of_getElem? (i := 1133) (by decide +kernel)⟩
theorem lw_p47 : lw_okq (⟨"EmberTaleModel", "tellsFor", "(II)I"⟩, 23) := ⟨⟨by decide +kernel, by decide +kernel⟩, List.mem_of_getElem? (i := 859) (by decide +kernel), List.mem_of_getElem? (i := 1140) (by decide +kernel), List.mem_of_getElem? (i := 1141) (by decide +kernel)⟩
def lw_privs_3 : List (MethodName × Nat) := [(⟨"EmberTaleModel", "areTold", "()Z"⟩, 23), (⟨"EmberTaleModel", "isLine", "(I)Z"⟩, 23), (⟨"EmberTaleModel", "behind", "(II)I"⟩, 23), (⟨"EmberTaleModel", "rainAt", "(I)I"⟩, 23), (⟨"EmberTaleModel", "isCompany", "(I)Z"⟩, 23), (⟨"EmberTaleModel", "remember", "()V"⟩, 23), (⟨"EmberTaleModel", "puts", "([III)V"⟩, 23), (⟨"EmberTaleModel", "hourGoes", "([I)V"⟩, 23), (⟨"EmberTaleModel", "insOf", "([I)I"⟩, 23), (⟨"EmberTaleModel", "isIn", "(I)Z"⟩, 23), (⟨"EmberTaleModel", "mayHand", "(III)Z"⟩, 23), (⟨"EmberTaleModel", "layLogs", "(I)V"⟩, 23), (⟨"EmberTaleModel", "keeps", "(II)I"⟩, 23), (⟨"EmberTaleModel", "keptBy", "(III)I"⟩, 23), (⟨"EmberTaleModel", "giveBack", "(I)I"⟩, 23), (⟨"EmberTaleModel", "tellsFor", "(II)I"⟩, 23)]
theorem lw_r3 : ∀ q ∈ lw_privs_3, lw_okq q := List.forall_mem_cons.mpr ⟨lw_p32, List.forall_mem_cons.mpr ⟨lw_p33, List.forall_mem_cons.mpr ⟨lw_p34, List.forall_mem_cons.mpr ⟨lw_p35, List.forall_mem_cons.mpr ⟨lw_p36, List.forall_mem_cons.mpr ⟨lw_p37, List.forall_mem_cons.mpr ⟨lw_p38, List.forall_mem_cons.mpr ⟨lw_p39, List.forall_mem_cons.mpr ⟨lw_p40, List.forall_mem_cons.mpr ⟨lw_p41, List.forall_mem_cons.mpr ⟨lw_p42, List.forall_mem_cons.mpr ⟨lw_p43, List.forall_mem_cons.mpr ⟨lw_p44, List.forall_mem_cons.mpr ⟨lw_p45, List.forall_mem_cons.mpr ⟨lw_p46, List.forall_mem_cons.mpr ⟨lw_p47, fun _ h => absurd h List.not_mem_nil⟩⟩⟩⟩⟩⟩⟩⟩⟩⟩⟩⟩⟩⟩⟩⟩
theorem lw_p48 : lw_okq (⟨"EmberTaleModel", "tellsBy", "(III)Z"⟩, 23) := ⟨⟨by decide +kernel, by decide +kernel⟩, List.mem_of_getElem? (i := 859) (by decide +kernel), List.mem_of_getElem? (i := 1144) (by decide +kernel), List.mem_of_getElem? (i := 1145) (by decide +kernel)⟩
theorem lw_p49 : lw_okq (⟨"EmberTaleModel", "goes", "(II)I"⟩, 23) := ⟨⟨by decide +kernel, by decide +kernel⟩, List.mem_of_getElem? (i := 859) (by decide +kernel), List.mem_of_getElem? (i := 1148) (by decide +kernel), List.mem_of_getElem? (i := 1149) (by decide +kernel)⟩
theorem lw_p50 : lw_okq (⟨"EmberTaleModel", "meets", "(II)I"⟩, 23) := ⟨⟨by decide +kernel, by decide +kernel⟩, List.mem_of_getElem? (i := 859) (by decide +kernel), List.mem_of_getElem? (i := 1156) (by decide +kernel), List.mem_of_getElem? (i := 1157) (by decide +kernel)⟩
theorem lw_p51 : lw_okq (⟨"EmberTaleModel", "laysWay", "(I)I"⟩, 23) := ⟨⟨by decide +kernel, by decide +kernel⟩, List.mem_of_getElem? (i := 859) (by decide +kernel), List.mem_of_getElem? (i := 1160) (by decide +kernel), List.mem_of_getElem? (i := 1161) (by decide +kernel)⟩
theorem lw_p52 : lw_okq (⟨"EmberTaleModel", "isKeptWith", "(IIII)Z"⟩, 23) := ⟨⟨by decide +kernel, by decide +kernel⟩, List.mem_of_getElem? (i := 859) (by decide +kernel), List.mem_of_getElem? (i := 1175) (by decide +kernel), List.mem_of_getElem? (i := 1176) (by decide +kernel)⟩
theorem lw_p53 : lw_okq (⟨"EmberTaleModel", "logsOfAll", "()I"⟩, 23) := ⟨⟨by decide +kernel, by decide +kernel⟩, List.mem_of_getElem? (i := 859) (by decide +kernel), List.mem_of_getElem? (i := 1228) (by decide +kernel), List.mem_of_getElem? (i := 1229) (by decide +kernel)⟩
def lw_privs_4 : List (MethodName × Nat) := [(⟨"EmberTaleModel", "tellsBy", "(III)Z"⟩, 23), (⟨"EmberTaleModel", "goes", "(II)I"⟩, 23), (⟨"EmberTaleModel", "meets", "(II)I"⟩, 23), (⟨"EmberTaleModel", "laysWay", "(I)I"⟩, 23), (⟨"EmberTaleModel", "isKeptWith", "(IIII)Z"⟩, 23), (⟨"EmberTaleModel", "logsOfAll", "()I"⟩, 23)]
theorem lw_r4 : ∀ q ∈ lw_privs_4, lw_okq q := List.forall_mem_cons.mpr ⟨lw_p48, List.forall_mem_cons.mpr ⟨lw_p49, List.forall_mem_cons.mpr ⟨lw_p50, List.forall_mem_cons.mpr ⟨lw_p51, List.forall_mem_cons.mpr ⟨lw_p52, List.forall_mem_cons.mpr ⟨lw_p53, fun _ h => absurd h List.not_mem_nil⟩⟩⟩⟩⟩⟩
def lw_privs : List (MethodName × Nat) := lw_privs_1 ++ (lw_privs_2 ++ (lw_privs_3 ++ (lw_privs_4)))
def lw_tbl : List Cond := k2_sels lw_privs ++ tables_1
theorem lw_privs_ok : ∀ q ∈ lw_privs, lw_okq q := by
  show ∀ q ∈ lw_privs_1 ++ (lw_privs_2 ++ (lw_privs_3 ++ (lw_privs_4))), lw_okq q
  exact List.forall_mem_append.mpr ⟨lw_r1, List.forall_mem_append.mpr ⟨lw_r2, List.forall_mem_append.mpr ⟨lw_r3, lw_r4⟩⟩⟩
-- ===== end of PART A; then your names; then what follows =====
def RX0 : String := "EmberTale$Camp"
def TX0 : u_T := fun k => match k with
  | 0 => ("EmberTale$Camp", "tale", "LEmberTale$Tale;", true)
  | 1 => ("EmberTale$Camp", "numbers", "LEmberTale$Row;", true)
  | _ => ("EmberTale$Camp", "hours", "I", false)
def tyX0 : Nat → FieldType := fun k => match k with
  | 0 => .object "EmberTale$Tale"
  | 1 => .object "EmberTale$Row"
  | _ => .int
abbrev wsX00 : List Cond := u_ws RX0 TX0 3
theorem nmX0 : ∀ a, a < 3 → ∀ b, b < 3 → a ≠ b → (TX0 a).2.1 ≠ (TX0 b).2.1 := by decide +kernel
theorem tyX0_ok : ∀ k, k < 3 → parseFieldDescriptor (TX0 k).2.2.1 = some (tyX0 k) := by decide +kernel
abbrev cX0_init : ByteArray := prog_2_method_1_code
def yX0_init : MethodName := ⟨RX0, "<init>", "(LEmberTale$Tale;)V"⟩
abbrev cX0_clear : ByteArray := prog_2_method_2_code
def yX0_clear : MethodName := ⟨RX0, "clear", "()V"⟩
abbrev cX0_become : ByteArray := prog_2_method_3_code
def yX0_become : MethodName := ⟨RX0, "become", "(LEmberTale$Camp;)V"⟩
abbrev cX0_addCompany : ByteArray := prog_2_method_4_code
def yX0_addCompany : MethodName := ⟨RX0, "addCompany", "(LEmberTale$Row;)Z"⟩
abbrev cX0_companies : ByteArray := prog_2_method_5_code
def yX0_companies : MethodName := ⟨RX0, "companies", "()I"⟩
abbrev cX0_hours : ByteArray := prog_2_method_6_code
def yX0_hours : MethodName := ⟨RX0, "hours", "()I"⟩
abbrev cX0_isCompany : ByteArray := prog_2_method_7_code
def yX0_isCompany : MethodName := ⟨RX0, "isCompany", "(I)Z"⟩
abbrev cX0_get : ByteArray := prog_2_method_8_code
def yX0_get : MethodName := ⟨RX0, "get", "(II)I"⟩
abbrev cX0_set : ByteArray := prog_2_method_9_code
def yX0_set : MethodName := ⟨RX0, "set", "(III)V"⟩
abbrev cX0_change : ByteArray := prog_2_method_10_code
def yX0_change : MethodName := ⟨RX0, "change", "(III)V"⟩
abbrev cX0_isIn : ByteArray := prog_2_method_11_code
def yX0_isIn : MethodName := ⟨RX0, "isIn", "(I)Z"⟩
abbrev cX0_canFeed : ByteArray := prog_2_method_12_code
def yX0_canFeed : MethodName := ⟨RX0, "canFeed", "(II)Z"⟩
abbrev cX0_feed : ByteArray := prog_2_method_13_code
def yX0_feed : MethodName := ⟨RX0, "feed", "(II)V"⟩
abbrev cX0_setHot : ByteArray := prog_2_method_14_code
def yX0_setHot : MethodName := ⟨RX0, "setHot", "(II)V"⟩
abbrev cX0_burnAnHour : ByteArray := prog_2_method_15_code
def yX0_burnAnHour : MethodName := ⟨RX0, "burnAnHour", "()V"⟩
abbrev cX0_canKindle : ByteArray := prog_2_method_16_code
def yX0_canKindle : MethodName := ⟨RX0, "canKindle", "(II)Z"⟩
abbrev cX0_kindle : ByteArray := prog_2_method_17_code
def yX0_kindle : MethodName := ⟨RX0, "kindle", "(II)V"⟩
abbrev cX0_merge : ByteArray := prog_2_method_18_code
def yX0_merge : MethodName := ⟨RX0, "merge", "(II)V"⟩
abbrev cX0_canMove : ByteArray := prog_2_method_19_code
def yX0_canMove : MethodName := ⟨RX0, "canMove", "(III)Z"⟩
abbrev cX0_move : ByteArray := prog_2_method_20_code
def yX0_move : MethodName := ⟨RX0, "move", "(III)V"⟩
abbrev cX0_hoursLeft : ByteArray := prog_2_method_21_code
def yX0_hoursLeft : MethodName := ⟨RX0, "hoursLeft", "(I)I"⟩
abbrev cX0_meetDraw : ByteArray := prog_2_method_22_code
def yX0_meetDraw : MethodName := ⟨RX0, "meetDraw", "(I)V"⟩
abbrev cX0_firesIn : ByteArray := prog_2_method_23_code
def yX0_firesIn : MethodName := ⟨RX0, "firesIn", "()I"⟩
abbrev cX0_allLogs : ByteArray := prog_2_method_24_code
def yX0_allLogs : MethodName := ⟨RX0, "allLogs", "()I"⟩
abbrev cX0_linesTold : ByteArray := prog_2_method_25_code
def yX0_linesTold : MethodName := ⟨RX0, "linesTold", "()I"⟩
def RX1 : String := "EmberTale$Chance"
def TX1 : u_T := fun k => match k with
  | 0 => ("EmberTale$Chance", "tale", "LEmberTale$Tale;", true)
  | 1 => ("EmberTale$Chance", "ways", "LEmberTale$Row;", true)
  | _ => ("EmberTale$Chance", "waysBehind", "LEmberTale$Row;", true)
def tyX1 : Nat → FieldType := fun k => match k with
  | 0 => .object "EmberTale$Tale"
  | 1 => .object "EmberTale$Row"
  | _ => .object "EmberTale$Row"
abbrev wsX10 : List Cond := u_ws RX1 TX1 3
theorem nmX1 : ∀ a, a < 3 → ∀ b, b < 3 → a ≠ b → (TX1 a).2.1 ≠ (TX1 b).2.1 := by decide +kernel
theorem tyX1_ok : ∀ k, k < 3 → parseFieldDescriptor (TX1 k).2.2.1 = some (tyX1 k) := by decide +kernel
abbrev cX1_init : ByteArray := prog_3_method_1_code
def yX1_init : MethodName := ⟨RX1, "<init>", "(LEmberTale$Tale;)V"⟩
abbrev cX1_ofBeingIn : ByteArray := prog_3_method_2_code
def yX1_ofBeingIn : MethodName := ⟨RX1, "ofBeingIn", "(LEmberTale$Camp;IIII)I"⟩
abbrev cX1_burn : ByteArray := prog_3_method_3_code
def yX1_burn : MethodName := ⟨RX1, "burn", "(III)V"⟩
abbrev cX1_addWays : ByteArray := prog_3_method_4_code
def yX1_addWays : MethodName := ⟨RX1, "addWays", "(II)V"⟩
abbrev cX1_commonDivisor : ByteArray := prog_3_method_5_code
def yX1_commonDivisor : MethodName := ⟨RX1, "commonDivisor", "(II)I"⟩
def RX2 : String := "EmberTale$Fire"
def TX2 : u_T := fun k => match k with
  | _ => ("", "", "", false)
def tyX2 : Nat → FieldType := fun k => match k with
  | _ => .int
abbrev wsX20 : List Cond := u_ws RX2 TX2 0
theorem nmX2 : ∀ a, a < 0 → ∀ b, b < 0 → a ≠ b → (TX2 a).2.1 ≠ (TX2 b).2.1 := by decide +kernel
theorem tyX2_ok : ∀ k, k < 0 → parseFieldDescriptor (TX2 k).2.2.1 = some (tyX2 k) := by decide +kernel
abbrev cX2_fed : ByteArray := prog_4_method_2_code
def yX2_fed : MethodName := ⟨RX2, "fed", "(II)I"⟩
abbrev cX2_burnt : ByteArray := prog_4_method_3_code
def yX2_burnt : MethodName := ⟨RX2, "burnt", "(III)I"⟩
abbrev cX2_heatOf : ByteArray := prog_4_method_4_code
def yX2_heatOf : MethodName := ⟨RX2, "heatOf", "(I)I"⟩
def RX3 : String := "EmberTale$Keeper"
def TX3 : u_T := fun k => match k with
  | 0 => ("EmberTale$Keeper", "tale", "LEmberTale$Tale;", true)
  | 1 => ("EmberTale$Keeper", "logs", "LEmberTale$Row;", true)
  | 2 => ("EmberTale$Keeper", "way", "LEmberTale$Row;", true)
  | 3 => ("EmberTale$Keeper", "start", "I", false)
  | _ => ("EmberTale$Keeper", "hours", "I", false)
def tyX3 : Nat → FieldType := fun k => match k with
  | 0 => .object "EmberTale$Tale"
  | 1 => .object "EmberTale$Row"
  | 2 => .object "EmberTale$Row"
  | 3 => .int
  | _ => .int
abbrev wsX30 : List Cond := u_ws RX3 TX3 5
theorem nmX3 : ∀ a, a < 5 → ∀ b, b < 5 → a ≠ b → (TX3 a).2.1 ≠ (TX3 b).2.1 := by decide +kernel
theorem tyX3_ok : ∀ k, k < 5 → parseFieldDescriptor (TX3 k).2.2.1 = some (tyX3 k) := by decide +kernel
abbrev cX3_init : ByteArray := prog_5_method_1_code
def yX3_init : MethodName := ⟨RX3, "<init>", "(LEmberTale$Tale;)V"⟩
abbrev cX3_fewest : ByteArray := prog_5_method_2_code
def yX3_fewest : MethodName := ⟨RX3, "fewest", "(LEmberTale$Camp;II)I"⟩
abbrev cX3_woodAhead : ByteArray := prog_5_method_3_code
def yX3_woodAhead : MethodName := ⟨RX3, "woodAhead", "(I)I"⟩
abbrev cX3_isKept : ByteArray := prog_5_method_4_code
def yX3_isKept : MethodName := ⟨RX3, "isKept", "(IIII)Z"⟩
abbrev cX3_isKeptBy : ByteArray := prog_5_method_5_code
def yX3_isKeptBy : MethodName := ⟨RX3, "isKeptBy", "(IIII)Z"⟩
def RX4 : String := "EmberTale$Meeter"
def TX4 : u_T := fun k => match k with
  | 0 => ("EmberTale$Meeter", "tale", "LEmberTale$Tale;", true)
  | 1 => ("EmberTale$Meeter", "pairs", "LEmberTale$Row;", true)
  | 2 => ("EmberTale$Meeter", "pairAhead", "LEmberTale$Row;", true)
  | 3 => ("EmberTale$Meeter", "woodBy", "LEmberTale$Row;", true)
  | 4 => ("EmberTale$Meeter", "found", "LEmberTale$Row;", true)
  | _ => ("EmberTale$Meeter", "wayBackwards", "LEmberTale$Row;", true)
def tyX4 : Nat → FieldType := fun k => match k with
  | 0 => .object "EmberTale$Tale"
  | 1 => .object "EmberTale$Row"
  | 2 => .object "EmberTale$Row"
  | 3 => .object "EmberTale$Row"
  | 4 => .object "EmberTale$Row"
  | _ => .object "EmberTale$Row"
abbrev wsX40 : List Cond := u_ws RX4 TX4 6
theorem nmX4 : ∀ a, a < 6 → ∀ b, b < 6 → a ≠ b → (TX4 a).2.1 ≠ (TX4 b).2.1 := by decide +kernel
theorem tyX4_ok : ∀ k, k < 6 → parseFieldDescriptor (TX4 k).2.2.1 = some (tyX4 k) := by decide +kernel
abbrev cX4_init : ByteArray := prog_6_method_1_code
def yX4_init : MethodName := ⟨RX4, "<init>", "(LEmberTale$Tale;)V"⟩
abbrev cX4_shortest : ByteArray := prog_6_method_2_code
def yX4_shortest : MethodName := ⟨RX4, "shortest", "(II)I"⟩
abbrev cX4_woodAt : ByteArray := prog_6_method_3_code
def yX4_woodAt : MethodName := ⟨RX4, "woodAt", "(I)I"⟩
abbrev cX4_reach : ByteArray := prog_6_method_4_code
def yX4_reach : MethodName := ⟨RX4, "reach", "(IIII)V"⟩
abbrev cX4_traceBack : ByteArray := prog_6_method_5_code
def yX4_traceBack : MethodName := ⟨RX4, "traceBack", "(I)I"⟩
def RX5 : String := "EmberTale$Reader"
def TX5 : u_T := fun k => match k with
  | 0 => ("EmberTale$Reader", "text", "LEmberTale$Row;", true)
  | 1 => ("EmberTale$Reader", "numbers", "LEmberTale$Row;", true)
  | 2 => ("EmberTale$Reader", "tale", "LEmberTale$Tale;", true)
  | 3 => ("EmberTale$Reader", "camp", "LEmberTale$Camp;", true)
  | _ => ("EmberTale$Reader", "place", "I", false)
def tyX5 : Nat → FieldType := fun k => match k with
  | 0 => .object "EmberTale$Row"
  | 1 => .object "EmberTale$Row"
  | 2 => .object "EmberTale$Tale"
  | 3 => .object "EmberTale$Camp"
  | _ => .int
abbrev wsX50 : List Cond := u_ws RX5 TX5 5
theorem nmX5 : ∀ a, a < 5 → ∀ b, b < 5 → a ≠ b → (TX5 a).2.1 ≠ (TX5 b).2.1 := by decide +kernel
theorem tyX5_ok : ∀ k, k < 5 → parseFieldDescriptor (TX5 k).2.2.1 = some (tyX5 k) := by decide +kernel
abbrev cX5_init : ByteArray := prog_7_method_1_code
def yX5_init : MethodName := ⟨RX5, "<init>", "(LEmberTale$Row;)V"⟩
abbrev cX5_tale : ByteArray := prog_7_method_2_code
def yX5_tale : MethodName := ⟨RX5, "tale", "()LEmberTale$Tale;"⟩
abbrev cX5_camp : ByteArray := prog_7_method_3_code
def yX5_camp : MethodName := ⟨RX5, "camp", "()LEmberTale$Camp;"⟩
abbrev cX5_readAWhole : ByteArray := prog_7_method_4_code
def yX5_readAWhole : MethodName := ⟨RX5, "readAWhole", "()Z"⟩
abbrev cX5_firstFault : ByteArray := prog_7_method_5_code
def yX5_firstFault : MethodName := ⟨RX5, "firstFault", "()I"⟩
abbrev cX5_readItem : ByteArray := prog_7_method_6_code
def yX5_readItem : MethodName := ⟨RX5, "readItem", "()Z"⟩
abbrev cX5_readFigures : ByteArray := prog_7_method_7_code
def yX5_readFigures : MethodName := ⟨RX5, "readFigures", "(I)Z"⟩
abbrev cX5_readNumbers : ByteArray := prog_7_method_8_code
def yX5_readNumbers : MethodName := ⟨RX5, "readNumbers", "(I)Z"⟩
abbrev cX5_readNumber : ByteArray := prog_7_method_9_code
def yX5_readNumber : MethodName := ⟨RX5, "readNumber", "()I"⟩
abbrev cX5_take : ByteArray := prog_7_method_10_code
def yX5_take : MethodName := ⟨RX5, "take", "()I"⟩
abbrev cX5_figureOf : ByteArray := prog_7_method_11_code
def yX5_figureOf : MethodName := ⟨RX5, "figureOf", "(I)I"⟩
def RX6 : String := "EmberTale$Row"
def TX6 : u_T := fun k => match k with
  | 0 => ("EmberTale$Row", "cells", "[I", true)
  | _ => ("EmberTale$Row", "size", "I", false)
def tyX6 : Nat → FieldType := fun k => match k with
  | 0 => .array .int
  | _ => .int
abbrev wsX60 : List Cond := u_ws RX6 TX6 2
theorem nmX6 : ∀ a, a < 2 → ∀ b, b < 2 → a ≠ b → (TX6 a).2.1 ≠ (TX6 b).2.1 := by decide +kernel
theorem tyX6_ok : ∀ k, k < 2 → parseFieldDescriptor (TX6 k).2.2.1 = some (tyX6 k) := by decide +kernel
abbrev cX6_init : ByteArray := prog_8_method_1_code
def yX6_init : MethodName := ⟨RX6, "<init>", "(I)V"⟩
abbrev cX6_size : ByteArray := prog_8_method_2_code
def yX6_size : MethodName := ⟨RX6, "size", "()I"⟩
abbrev cX6_isFull : ByteArray := prog_8_method_3_code
def yX6_isFull : MethodName := ⟨RX6, "isFull", "()Z"⟩
abbrev cX6_clear : ByteArray := prog_8_method_4_code
def yX6_clear : MethodName := ⟨RX6, "clear", "()V"⟩
abbrev cX6_add : ByteArray := prog_8_method_5_code
def yX6_add : MethodName := ⟨RX6, "add", "(I)V"⟩
abbrev cX6_get : ByteArray := prog_8_method_6_code
def yX6_get : MethodName := ⟨RX6, "get", "(I)I"⟩
abbrev cX6_set : ByteArray := prog_8_method_7_code
def yX6_set : MethodName := ⟨RX6, "set", "(II)V"⟩
abbrev cX6_fill : ByteArray := prog_8_method_8_code
def yX6_fill : MethodName := ⟨RX6, "fill", "(I)V"⟩
abbrev cX6_become : ByteArray := prog_8_method_9_code
def yX6_become : MethodName := ⟨RX6, "become", "(LEmberTale$Row;)V"⟩
def RX7 : String := "EmberTale$Shelf"
def TX7 : u_T := fun k => match k with
  | 0 => ("EmberTale$Shelf", "camps", "[LEmberTale$Camp;", true)
  | 1 => ("EmberTale$Shelf", "first", "I", false)
  | _ => ("EmberTale$Shelf", "size", "I", false)
def tyX7 : Nat → FieldType := fun k => match k with
  | 0 => .array (.object "EmberTale$Camp")
  | 1 => .int
  | _ => .int
abbrev wsX70 : List Cond := u_ws RX7 TX7 3
theorem nmX7 : ∀ a, a < 3 → ∀ b, b < 3 → a ≠ b → (TX7 a).2.1 ≠ (TX7 b).2.1 := by decide +kernel
theorem tyX7_ok : ∀ k, k < 3 → parseFieldDescriptor (TX7 k).2.2.1 = some (tyX7 k) := by decide +kernel
abbrev cX7_init : ByteArray := prog_9_method_1_code
def yX7_init : MethodName := ⟨RX7, "<init>", "(ILEmberTale$Tale;)V"⟩
abbrev cX7_size : ByteArray := prog_9_method_2_code
def yX7_size : MethodName := ⟨RX7, "size", "()I"⟩
abbrev cX7_isFull : ByteArray := prog_9_method_3_code
def yX7_isFull : MethodName := ⟨RX7, "isFull", "()Z"⟩
abbrev cX7_clear : ByteArray := prog_9_method_4_code
def yX7_clear : MethodName := ⟨RX7, "clear", "()V"⟩
abbrev cX7_push : ByteArray := prog_9_method_5_code
def yX7_push : MethodName := ⟨RX7, "push", "(LEmberTale$Camp;)V"⟩
abbrev cX7_pop : ByteArray := prog_9_method_6_code
def yX7_pop : MethodName := ⟨RX7, "pop", "(LEmberTale$Camp;)Z"⟩
abbrev cX7_slotOf : ByteArray := prog_9_method_7_code
def yX7_slotOf : MethodName := ⟨RX7, "slotOf", "(I)LEmberTale$Camp;"⟩
def RX8 : String := "EmberTale$Tale"
def TX8 : u_T := fun k => match k with
  | 0 => ("EmberTale$Tale", "next", "LEmberTale$Row;", true)
  | 1 => ("EmberTale$Tale", "rainfall", "LEmberTale$Row;", true)
  | 2 => ("EmberTale$Tale", "ways", "LEmberTale$Row;", true)
  | 3 => ("EmberTale$Tale", "waysBehind", "LEmberTale$Row;", true)
  | _ => ("EmberTale$Tale", "lines", "I", false)
def tyX8 : Nat → FieldType := fun k => match k with
  | 0 => .object "EmberTale$Row"
  | 1 => .object "EmberTale$Row"
  | 2 => .object "EmberTale$Row"
  | 3 => .object "EmberTale$Row"
  | _ => .int
abbrev wsX80 : List Cond := u_ws RX8 TX8 5
theorem nmX8 : ∀ a, a < 5 → ∀ b, b < 5 → a ≠ b → (TX8 a).2.1 ≠ (TX8 b).2.1 := by decide +kernel
theorem tyX8_ok : ∀ k, k < 5 → parseFieldDescriptor (TX8 k).2.2.1 = some (tyX8 k) := by decide +kernel
abbrev cX8_init : ByteArray := prog_10_method_1_code
def yX8_init : MethodName := ⟨RX8, "<init>", "()V"⟩
abbrev cX8_clear : ByteArray := prog_10_method_2_code
def yX8_clear : MethodName := ⟨RX8, "clear", "()V"⟩
abbrev cX8_become : ByteArray := prog_10_method_3_code
def yX8_become : MethodName := ⟨RX8, "become", "(LEmberTale$Tale;)V"⟩
abbrev cX8_addLine : ByteArray := prog_10_method_4_code
def yX8_addLine : MethodName := ⟨RX8, "addLine", "(LEmberTale$Row;)Z"⟩
abbrev cX8_addRain : ByteArray := prog_10_method_5_code
def yX8_addRain : MethodName := ⟨RX8, "addRain", "(I)Z"⟩
abbrev cX8_lines : ByteArray := prog_10_method_6_code
def yX8_lines : MethodName := ⟨RX8, "lines", "()I"⟩
abbrev cX8_isLine : ByteArray := prog_10_method_7_code
def yX8_isLine : MethodName := ⟨RX8, "isLine", "(I)Z"⟩
abbrev cX8_tellsAllItNames : ByteArray := prog_10_method_8_code
def yX8_tellsAllItNames : MethodName := ⟨RX8, "tellsAllItNames", "()Z"⟩
abbrev cX8_behind : ByteArray := prog_10_method_9_code
def yX8_behind : MethodName := ⟨RX8, "behind", "(II)I"⟩
abbrev cX8_comingFrom : ByteArray := prog_10_method_10_code
def yX8_comingFrom : MethodName := ⟨RX8, "comingFrom", "(II)I"⟩
abbrev cX8_rainAt : ByteArray := prog_10_method_11_code
def yX8_rainAt : MethodName := ⟨RX8, "rainAt", "(I)I"⟩
abbrev cX8_reached : ByteArray := prog_10_method_12_code
def yX8_reached : MethodName := ⟨RX8, "reached", "(I)I"⟩
abbrev cX8_oneStepOn : ByteArray := prog_10_method_13_code
def yX8_oneStepOn : MethodName := ⟨RX8, "oneStepOn", "(I)I"⟩
abbrev cX8_origins : ByteArray := prog_10_method_14_code
def yX8_origins : MethodName := ⟨RX8, "origins", "(LEmberTale$Row;I)I"⟩
abbrev cX8_endOf : ByteArray := prog_10_method_15_code
def yX8_endOf : MethodName := ⟨RX8, "endOf", "(ILEmberTale$Row;)I"⟩
abbrev cX8_waysBetween : ByteArray := prog_10_method_16_code
def yX8_waysBetween : MethodName := ⟨RX8, "waysBetween", "(III)I"⟩
abbrev cX8_lengthenWays : ByteArray := prog_10_method_17_code
def yX8_lengthenWays : MethodName := ⟨RX8, "lengthenWays", "()V"⟩
def RX9 : String := "EmberTale$Teller"
def TX9 : u_T := fun k => match k with
  | 0 => ("EmberTale$Teller", "tale", "LEmberTale$Tale;", true)
  | 1 => ("EmberTale$Teller", "logs", "LEmberTale$Row;", true)
  | 2 => ("EmberTale$Teller", "way", "LEmberTale$Row;", true)
  | 3 => ("EmberTale$Teller", "wanted", "I", false)
  | _ => ("EmberTale$Teller", "length", "I", false)
def tyX9 : Nat → FieldType := fun k => match k with
  | 0 => .object "EmberTale$Tale"
  | 1 => .object "EmberTale$Row"
  | 2 => .object "EmberTale$Row"
  | 3 => .int
  | _ => .int
abbrev wsX90 : List Cond := u_ws RX9 TX9 5
theorem nmX9 : ∀ a, a < 5 → ∀ b, b < 5 → a ≠ b → (TX9 a).2.1 ≠ (TX9 b).2.1 := by decide +kernel
theorem tyX9_ok : ∀ k, k < 5 → parseFieldDescriptor (TX9 k).2.2.1 = some (tyX9 k) := by decide +kernel
abbrev cX9_init : ByteArray := prog_11_method_1_code
def yX9_init : MethodName := ⟨RX9, "<init>", "(LEmberTale$Tale;)V"⟩
abbrev cX9_fewest : ByteArray := prog_11_method_2_code
def yX9_fewest : MethodName := ⟨RX9, "fewest", "(LEmberTale$Camp;II)I"⟩
abbrev cX9_woodAt : ByteArray := prog_11_method_3_code
def yX9_woodAt : MethodName := ⟨RX9, "woodAt", "(I)I"⟩
abbrev cX9_isTold : ByteArray := prog_11_method_4_code
def yX9_isTold : MethodName := ⟨RX9, "isTold", "(III)Z"⟩
abbrev cX9_isToldBy : ByteArray := prog_11_method_5_code
def yX9_isToldBy : MethodName := ⟨RX9, "isToldBy", "(IIII)Z"⟩
def RX10 : String := "EmberTale"
def TX10 : u_T := fun k => match k with
  | 0 => ("EmberTale", "text", "LEmberTale$Row;", true)
  | 1 => ("EmberTale", "seen", "LEmberTale$Row;", true)
  | 2 => ("EmberTale", "tale", "LEmberTale$Tale;", true)
  | 3 => ("EmberTale", "camp", "LEmberTale$Camp;", true)
  | 4 => ("EmberTale", "trial", "LEmberTale$Camp;", true)
  | 5 => ("EmberTale", "past", "LEmberTale$Shelf;", true)
  | 6 => ("EmberTale", "kept", "LEmberTale$Shelf;", true)
  | 7 => ("EmberTale", "reader", "LEmberTale$Reader;", true)
  | 8 => ("EmberTale", "keeper", "LEmberTale$Keeper;", true)
  | 9 => ("EmberTale", "teller", "LEmberTale$Teller;", true)
  | 10 => ("EmberTale", "meeter", "LEmberTale$Meeter;", true)
  | _ => ("EmberTale", "chance", "LEmberTale$Chance;", true)
def tyX10 : Nat → FieldType := fun k => match k with
  | 0 => .object "EmberTale$Row"
  | 1 => .object "EmberTale$Row"
  | 2 => .object "EmberTale$Tale"
  | 3 => .object "EmberTale$Camp"
  | 4 => .object "EmberTale$Camp"
  | 5 => .object "EmberTale$Shelf"
  | 6 => .object "EmberTale$Shelf"
  | 7 => .object "EmberTale$Reader"
  | 8 => .object "EmberTale$Keeper"
  | 9 => .object "EmberTale$Teller"
  | 10 => .object "EmberTale$Meeter"
  | _ => .object "EmberTale$Chance"
abbrev wsX100 : List Cond := u_ws RX10 TX10 12
theorem nmX10 : ∀ a, a < 12 → ∀ b, b < 12 → a ≠ b → (TX10 a).2.1 ≠ (TX10 b).2.1 := by decide +kernel
theorem tyX10_ok : ∀ k, k < 12 → parseFieldDescriptor (TX10 k).2.2.1 = some (tyX10 k) := by decide +kernel
abbrev cX10_init : ByteArray := prog_1_method_1_code
def yX10_init : MethodName := ⟨RX10, "<init>", "()V"⟩
abbrev cX10_write : ByteArray := prog_1_method_2_code
def yX10_write : MethodName := ⟨RX10, "write", "(I)I"⟩
abbrev cX10_wipe : ByteArray := prog_1_method_3_code
def yX10_wipe : MethodName := ⟨RX10, "wipe", "()I"⟩
abbrev cX10_fault : ByteArray := prog_1_method_4_code
def yX10_fault : MethodName := ⟨RX10, "fault", "()I"⟩
abbrev cX10_lay : ByteArray := prog_1_method_5_code
def yX10_lay : MethodName := ⟨RX10, "lay", "()I"⟩
abbrev cX10_line : ByteArray := prog_1_method_6_code
def yX10_line : MethodName := ⟨RX10, "line", "(II)I"⟩
abbrev cX10_rain : ByteArray := prog_1_method_7_code
def yX10_rain : MethodName := ⟨RX10, "rain", "(I)I"⟩
abbrev cX10_company : ByteArray := prog_1_method_8_code
def yX10_company : MethodName := ⟨RX10, "company", "(II)I"⟩
abbrev cX10_put : ByteArray := prog_1_method_9_code
def yX10_put : MethodName := ⟨RX10, "put", "(II)I"⟩
abbrev cX10_pass : ByteArray := prog_1_method_10_code
def yX10_pass : MethodName := ⟨RX10, "pass", "(I)I"⟩
abbrev cX10_light : ByteArray := prog_1_method_11_code
def yX10_light : MethodName := ⟨RX10, "light", "(II)I"⟩
abbrev cX10_join : ByteArray := prog_1_method_12_code
def yX10_join : MethodName := ⟨RX10, "join", "(II)I"⟩
abbrev cX10_hand : ByteArray := prog_1_method_13_code
def yX10_hand : MethodName := ⟨RX10, "hand", "(III)I"⟩
abbrev cX10_undo : ByteArray := prog_1_method_14_code
def yX10_undo : MethodName := ⟨RX10, "undo", "()I"⟩
abbrev cX10_lasts : ByteArray := prog_1_method_15_code
def yX10_lasts : MethodName := ⟨RX10, "lasts", "(I)I"⟩
abbrev cX10_stays : ByteArray := prog_1_method_16_code
def yX10_stays : MethodName := ⟨RX10, "stays", "(III)I"⟩
abbrev cX10_tell : ByteArray := prog_1_method_17_code
def yX10_tell : MethodName := ⟨RX10, "tell", "(III)I"⟩
abbrev cX10_meet : ByteArray := prog_1_method_18_code
def yX10_meet : MethodName := ⟨RX10, "meet", "(III)I"⟩
abbrev cX10_can : ByteArray := prog_1_method_19_code
def yX10_can : MethodName := ⟨RX10, "can", "(I)I"⟩
abbrev cX10_give : ByteArray := prog_1_method_20_code
def yX10_give : MethodName := ⟨RX10, "give", "(III)I"⟩
abbrev cX10_see : ByteArray := prog_1_method_21_code
def yX10_see : MethodName := ⟨RX10, "see", "(I)I"⟩
abbrev cX10_forget : ByteArray := prog_1_method_22_code
def yX10_forget : MethodName := ⟨RX10, "forget", "()I"⟩
abbrev cX10_from : ByteArray := prog_1_method_23_code
def yX10_from : MethodName := ⟨RX10, "from", "(I)I"⟩
abbrev cX10_rows : ByteArray := prog_1_method_24_code
def yX10_rows : MethodName := ⟨RX10, "rows", "(III)I"⟩
abbrev cX10_rains : ByteArray := prog_1_method_25_code
def yX10_rains : MethodName := ⟨RX10, "rains", "(IIII)I"⟩
abbrev cX10_winter : ByteArray := prog_1_method_26_code
def yX10_winter : MethodName := ⟨RX10, "winter", "(III)I"⟩
abbrev cX10_keep : ByteArray := prog_1_method_27_code
def yX10_keep : MethodName := ⟨RX10, "keep", "()I"⟩
abbrev cX10_back : ByteArray := prog_1_method_28_code
def yX10_back : MethodName := ⟨RX10, "back", "()I"⟩
abbrev cX10_count : ByteArray := prog_1_method_29_code
def yX10_count : MethodName := ⟨RX10, "count", "(I)I"⟩
abbrev cX10_layText : ByteArray := prog_1_method_30_code
def yX10_layText : MethodName := ⟨RX10, "layText", "()Z"⟩
abbrev cX10_wouldHelp : ByteArray := prog_1_method_31_code
def yX10_wouldHelp : MethodName := ⟨RX10, "wouldHelp", "(IIII)Z"⟩
abbrev cX10_areTwo : ByteArray := prog_1_method_32_code
def yX10_areTwo : MethodName := ⟨RX10, "areTwo", "(II)Z"⟩
abbrev cX10_draw : ByteArray := prog_1_method_33_code
def yX10_draw : MethodName := ⟨RX10, "draw", "(II)I"⟩
abbrev cX10_isWood : ByteArray := prog_1_method_34_code
def yX10_isWood : MethodName := ⟨RX10, "isWood", "(I)Z"⟩
abbrev cX10_within : ByteArray := prog_1_method_35_code
def yX10_within : MethodName := ⟨RX10, "within", "(III)Z"⟩
def RX11 : String := "EmberTaleModel"
def TX11 : u_T := fun k => match k with
  | 0 => ("EmberTaleModel", "camp", "[I", true)
  | 1 => ("EmberTaleModel", "read", "[I", true)
  | 2 => ("EmberTaleModel", "now", "[I", true)
  | 3 => ("EmberTaleModel", "aside", "[I", true)
  | 4 => ("EmberTaleModel", "past", "[I", true)
  | 5 => ("EmberTaleModel", "undos", "I", false)
  | 6 => ("EmberTaleModel", "kept", "[I", true)
  | 7 => ("EmberTaleModel", "keptMany", "I", false)
  | 8 => ("EmberTaleModel", "sights", "[I", true)
  | 9 => ("EmberTaleModel", "sightMany", "I", false)
  | 10 => ("EmberTaleModel", "text", "[I", true)
  | 11 => ("EmberTaleModel", "size", "I", false)
  | 12 => ("EmberTaleModel", "at", "I", false)
  | 13 => ("EmberTaleModel", "value", "I", false)
  | 14 => ("EmberTaleModel", "row", "[I", true)
  | 15 => ("EmberTaleModel", "best", "[I", true)
  | 16 => ("EmberTaleModel", "logs", "[I", true)
  | 17 => ("EmberTaleModel", "wave", "[I", true)
  | 18 => ("EmberTaleModel", "by", "[I", true)
  | 19 => ("EmberTaleModel", "whence", "[I", true)
  | 20 => ("EmberTaleModel", "way", "[I", true)
  | 21 => ("EmberTaleModel", "ways", "[I", true)
  | _ => ("EmberTaleModel", "then", "[I", true)
def tyX11 : Nat → FieldType := fun k => match k with
  | 0 => .array .int
  | 1 => .array .int
  | 2 => .array .int
  | 3 => .array .int
  | 4 => .array .int
  | 5 => .int
  | 6 => .array .int
  | 7 => .int
  | 8 => .array .int
  | 9 => .int
  | 10 => .array .int
  | 11 => .int
  | 12 => .int
  | 13 => .int
  | 14 => .array .int
  | 15 => .array .int
  | 16 => .array .int
  | 17 => .array .int
  | 18 => .array .int
  | 19 => .array .int
  | 20 => .array .int
  | 21 => .array .int
  | _ => .array .int
abbrev wsX110 : List Cond := u_ws RX11 TX11 23
theorem nmX11 : ∀ a, a < 23 → ∀ b, b < 23 → a ≠ b → (TX11 a).2.1 ≠ (TX11 b).2.1 := by decide +kernel
theorem tyX11_ok : ∀ k, k < 23 → parseFieldDescriptor (TX11 k).2.2.1 = some (tyX11 k) := by decide +kernel
abbrev cX11_init : ByteArray := prog_13_method_1_code
def yX11_init : MethodName := ⟨RX11, "<init>", "()V"⟩
abbrev cX11_in : ByteArray := prog_13_method_3_code
def yX11_in : MethodName := ⟨RX11, "in", "(JJJ)Z"⟩
abbrev cX11_has : ByteArray := prog_13_method_4_code
def yX11_has : MethodName := ⟨RX11, "has", "(II)Z"⟩
abbrev cX11_copies : ByteArray := prog_13_method_5_code
def yX11_copies : MethodName := ⟨RX11, "copies", "([II[III)V"⟩
abbrev cX11_line : ByteArray := prog_13_method_6_code
def yX11_line : MethodName := ⟨RX11, "line", "([II)V"⟩
abbrev cX11_company : ByteArray := prog_13_method_7_code
def yX11_company : MethodName := ⟨RX11, "company", "([IIII)V"⟩
abbrev cX11_begins : ByteArray := prog_13_method_8_code
def yX11_begins : MethodName := ⟨RX11, "begins", "()V"⟩
abbrev cX11_write : ByteArray := prog_13_method_9_code
def yX11_write : MethodName := ⟨RX11, "write", "(I)I"⟩
abbrev cX11_wipe : ByteArray := prog_13_method_10_code
def yX11_wipe : MethodName := ⟨RX11, "wipe", "()I"⟩
abbrev cX11_here : ByteArray := prog_13_method_11_code
def yX11_here : MethodName := ⟨RX11, "here", "()I"⟩
abbrev cX11_takes : ByteArray := prog_13_method_12_code
def yX11_takes : MethodName := ⟨RX11, "takes", "(I)Z"⟩
abbrev cX11_isFigure : ByteArray := prog_13_method_13_code
def yX11_isFigure : MethodName := ⟨RX11, "isFigure", "(I)Z"⟩
abbrev cX11_number : ByteArray := prog_13_method_14_code
def yX11_number : MethodName := ⟨RX11, "number", "(II)Z"⟩
abbrev cX11_readsLine : ByteArray := prog_13_method_15_code
def yX11_readsLine : MethodName := ⟨RX11, "readsLine", "()Z"⟩
abbrev cX11_readsRain : ByteArray := prog_13_method_16_code
def yX11_readsRain : MethodName := ⟨RX11, "readsRain", "()Z"⟩
abbrev cX11_readsCompany : ByteArray := prog_13_method_17_code
def yX11_readsCompany : MethodName := ⟨RX11, "readsCompany", "()Z"⟩
abbrev cX11_readsItem : ByteArray := prog_13_method_18_code
def yX11_readsItem : MethodName := ⟨RX11, "readsItem", "()Z"⟩
abbrev cX11_reads : ByteArray := prog_13_method_19_code
def yX11_reads : MethodName := ⟨RX11, "reads", "()I"⟩
abbrev cX11_fault : ByteArray := prog_13_method_20_code
def yX11_fault : MethodName := ⟨RX11, "fault", "()I"⟩
abbrev cX11_areTold : ByteArray := prog_13_method_21_code
def yX11_areTold : MethodName := ⟨RX11, "areTold", "()Z"⟩
abbrev cX11_lay : ByteArray := prog_13_method_22_code
def yX11_lay : MethodName := ⟨RX11, "lay", "()I"⟩
abbrev cX11_isLine : ByteArray := prog_13_method_23_code
def yX11_isLine : MethodName := ⟨RX11, "isLine", "(I)Z"⟩
abbrev cX11_isWood : ByteArray := prog_13_method_24_code
def yX11_isWood : MethodName := ⟨RX11, "isWood", "(I)Z"⟩
abbrev cX11_isCompany : ByteArray := prog_13_method_25_code
def yX11_isCompany : MethodName := ⟨RX11, "isCompany", "(I)Z"⟩
abbrev cX11_behind : ByteArray := prog_13_method_26_code
def yX11_behind : MethodName := ⟨RX11, "behind", "(II)I"⟩
abbrev cX11_goes : ByteArray := prog_13_method_27_code
def yX11_goes : MethodName := ⟨RX11, "goes", "(II)I"⟩
abbrev cX11_rainAt : ByteArray := prog_13_method_28_code
def yX11_rainAt : MethodName := ⟨RX11, "rainAt", "(I)I"⟩
abbrev cX11_line_ : ByteArray := prog_13_method_29_code
def yX11_line_ : MethodName := ⟨RX11, "line", "(II)I"⟩
abbrev cX11_rain : ByteArray := prog_13_method_30_code
def yX11_rain : MethodName := ⟨RX11, "rain", "(I)I"⟩
abbrev cX11_company_ : ByteArray := prog_13_method_31_code
def yX11_company_ : MethodName := ⟨RX11, "company", "(II)I"⟩
abbrev cX11_hotter : ByteArray := prog_13_method_32_code
def yX11_hotter : MethodName := ⟨RX11, "hotter", "(II)I"⟩
abbrev cX11_cooler : ByteArray := prog_13_method_33_code
def yX11_cooler : MethodName := ⟨RX11, "cooler", "(III)I"⟩
abbrev cX11_isIn : ByteArray := prog_13_method_34_code
def yX11_isIn : MethodName := ⟨RX11, "isIn", "(I)Z"⟩
abbrev cX11_goesOut : ByteArray := prog_13_method_35_code
def yX11_goesOut : MethodName := ⟨RX11, "goesOut", "([II)V"⟩
abbrev cX11_mayPut : ByteArray := prog_13_method_36_code
def yX11_mayPut : MethodName := ⟨RX11, "mayPut", "([III)Z"⟩
abbrev cX11_puts : ByteArray := prog_13_method_37_code
def yX11_puts : MethodName := ⟨RX11, "puts", "([III)V"⟩
abbrev cX11_hourGoes : ByteArray := prog_13_method_38_code
def yX11_hourGoes : MethodName := ⟨RX11, "hourGoes", "([I)V"⟩
abbrev cX11_insOf : ByteArray := prog_13_method_39_code
def yX11_insOf : MethodName := ⟨RX11, "insOf", "([I)I"⟩
abbrev cX11_remember : ByteArray := prog_13_method_40_code
def yX11_remember : MethodName := ⟨RX11, "remember", "()V"⟩
abbrev cX11_put : ByteArray := prog_13_method_41_code
def yX11_put : MethodName := ⟨RX11, "put", "(II)I"⟩
abbrev cX11_pass : ByteArray := prog_13_method_42_code
def yX11_pass : MethodName := ⟨RX11, "pass", "(I)I"⟩
abbrev cX11_mayLight : ByteArray := prog_13_method_43_code
def yX11_mayLight : MethodName := ⟨RX11, "mayLight", "([III)Z"⟩
abbrev cX11_lights : ByteArray := prog_13_method_44_code
def yX11_lights : MethodName := ⟨RX11, "lights", "([III)V"⟩
abbrev cX11_light : ByteArray := prog_13_method_45_code
def yX11_light : MethodName := ⟨RX11, "light", "(II)I"⟩
abbrev cX11_join : ByteArray := prog_13_method_46_code
def yX11_join : MethodName := ⟨RX11, "join", "(II)I"⟩
abbrev cX11_mayHand : ByteArray := prog_13_method_47_code
def yX11_mayHand : MethodName := ⟨RX11, "mayHand", "(III)Z"⟩
abbrev cX11_hand : ByteArray := prog_13_method_48_code
def yX11_hand : MethodName := ⟨RX11, "hand", "(III)I"⟩
abbrev cX11_undo : ByteArray := prog_13_method_49_code
def yX11_undo : MethodName := ⟨RX11, "undo", "()I"⟩
abbrev cX11_lasts : ByteArray := prog_13_method_50_code
def yX11_lasts : MethodName := ⟨RX11, "lasts", "(I)I"⟩
abbrev cX11_layLogs : ByteArray := prog_13_method_51_code
def yX11_layLogs : MethodName := ⟨RX11, "layLogs", "(I)V"⟩
abbrev cX11_keptBy : ByteArray := prog_13_method_52_code
def yX11_keptBy : MethodName := ⟨RX11, "keptBy", "(III)I"⟩
abbrev cX11_giveBack : ByteArray := prog_13_method_53_code
def yX11_giveBack : MethodName := ⟨RX11, "giveBack", "(I)I"⟩
abbrev cX11_keeps : ByteArray := prog_13_method_54_code
def yX11_keeps : MethodName := ⟨RX11, "keeps", "(II)I"⟩
abbrev cX11_stays : ByteArray := prog_13_method_55_code
def yX11_stays : MethodName := ⟨RX11, "stays", "(III)I"⟩
abbrev cX11_tellsBy : ByteArray := prog_13_method_56_code
def yX11_tellsBy : MethodName := ⟨RX11, "tellsBy", "(III)Z"⟩
abbrev cX11_tellsFor : ByteArray := prog_13_method_57_code
def yX11_tellsFor : MethodName := ⟨RX11, "tellsFor", "(II)I"⟩
abbrev cX11_tell : ByteArray := prog_13_method_58_code
def yX11_tell : MethodName := ⟨RX11, "tell", "(III)I"⟩
abbrev cX11_meets : ByteArray := prog_13_method_59_code
def yX11_meets : MethodName := ⟨RX11, "meets", "(II)I"⟩
abbrev cX11_laysWay : ByteArray := prog_13_method_60_code
def yX11_laysWay : MethodName := ⟨RX11, "laysWay", "(I)I"⟩
abbrev cX11_meet : ByteArray := prog_13_method_61_code
def yX11_meet : MethodName := ⟨RX11, "meet", "(III)I"⟩
abbrev cX11_can : ByteArray := prog_13_method_62_code
def yX11_can : MethodName := ⟨RX11, "can", "(I)I"⟩
abbrev cX11_isKeptWith : ByteArray := prog_13_method_63_code
def yX11_isKeptWith : MethodName := ⟨RX11, "isKeptWith", "(IIII)Z"⟩
abbrev cX11_give : ByteArray := prog_13_method_64_code
def yX11_give : MethodName := ⟨RX11, "give", "(III)I"⟩
abbrev cX11_see : ByteArray := prog_13_method_65_code
def yX11_see : MethodName := ⟨RX11, "see", "(I)I"⟩
abbrev cX11_forget : ByteArray := prog_13_method_66_code
def yX11_forget : MethodName := ⟨RX11, "forget", "()I"⟩
abbrev cX11_from : ByteArray := prog_13_method_67_code
def yX11_from : MethodName := ⟨RX11, "from", "(I)I"⟩
abbrev cX11_rows : ByteArray := prog_13_method_68_code
def yX11_rows : MethodName := ⟨RX11, "rows", "(III)I"⟩
abbrev cX11_lowest : ByteArray := prog_13_method_69_code
def yX11_lowest : MethodName := ⟨RX11, "lowest", "(JJI)I"⟩
abbrev cX11_rains : ByteArray := prog_13_method_70_code
def yX11_rains : MethodName := ⟨RX11, "rains", "(IIII)I"⟩
abbrev cX11_toldIn : ByteArray := prog_13_method_71_code
def yX11_toldIn : MethodName := ⟨RX11, "toldIn", "([I)I"⟩
abbrev cX11_winter : ByteArray := prog_13_method_72_code
def yX11_winter : MethodName := ⟨RX11, "winter", "(III)I"⟩
abbrev cX11_keep : ByteArray := prog_13_method_73_code
def yX11_keep : MethodName := ⟨RX11, "keep", "()I"⟩
abbrev cX11_back : ByteArray := prog_13_method_74_code
def yX11_back : MethodName := ⟨RX11, "back", "()I"⟩
abbrev cX11_logsOfAll : ByteArray := prog_13_method_75_code
def yX11_logsOfAll : MethodName := ⟨RX11, "logsOfAll", "()I"⟩
abbrev cX11_count : ByteArray := prog_13_method_76_code
def yX11_count : MethodName := ⟨RX11, "count", "(I)I"⟩
def RJ9 : String := "java/lang/Math"
abbrev cJ9_floorMod_7cf53 : ByteArray := prog_14_method_50_code
def yJ9_floorMod_7cf53 : MethodName := ⟨RJ9, "floorMod", "(II)I"⟩
abbrev cJ9_max_7cf53 : ByteArray := prog_14_method_65_code
def yJ9_max_7cf53 : MethodName := ⟨RJ9, "max", "(II)I"⟩
abbrev cJ9_min_7cf53 : ByteArray := prog_14_method_69_code
def yJ9_min_7cf53 : MethodName := ⟨RJ9, "min", "(II)I"⟩
def RJ0 : String := "java/lang/String"
abbrev cJ0_length_8abf5 : ByteArray := prog_15_method_54_code
def yJ0_length_8abf5 : MethodName := ⟨RJ0, "length", "()I"⟩
abbrev cJ0_charAt_5068e : ByteArray := prog_15_method_56_code
def yJ0_charAt_5068e : MethodName := ⟨RJ0, "charAt", "(I)C"⟩
abbrev cJ0_coder_7d493 : ByteArray := prog_15_method_152_code
def yJ0_coder_7d493 : MethodName := ⟨RJ0, "coder", "()B"⟩
abbrev cJ0_isLatin1_aae02 : ByteArray := prog_15_method_154_code
def yJ0_isLatin1_aae02 : MethodName := ⟨RJ0, "isLatin1", "()Z"⟩
abbrev cJ0_checkIndex_df160 : ByteArray := prog_15_method_155_code
def yJ0_checkIndex_df160 : MethodName := ⟨RJ0, "checkIndex", "(II)V"⟩
def RJ1 : String := "java/lang/StringLatin1"
abbrev cJ1_charAt_3b067 : ByteArray := prog_16_method_2_code
def yJ1_charAt_3b067 : MethodName := ⟨RJ1, "charAt", "([BI)C"⟩
def RJ2 : String := "java/lang/StringUTF16"
abbrev cJ2_getChar_3b067 : ByteArray := prog_17_method_5_code
def yJ2_getChar_3b067 : MethodName := ⟨RJ2, "getChar", "([BI)C"⟩
abbrev cJ2_length_9d52b : ByteArray := prog_17_method_6_code
def yJ2_length_9d52b : MethodName := ⟨RJ2, "length", "([B)I"⟩
abbrev cJ2_charAt_3b067 : ByteArray := prog_17_method_83_code
def yJ2_charAt_3b067 : MethodName := ⟨RJ2, "charAt", "([BI)C"⟩
abbrev cJ2_checkIndex_2214a : ByteArray := prog_17_method_91_code
def yJ2_checkIndex_2214a : MethodName := ⟨RJ2, "checkIndex", "(I[B)V"⟩
def RJ3 : String := "jdk/internal/util/Preconditions"
abbrev cJ3_checkIndex_8e157 : ByteArray := prog_18_method_11_code
def yJ3_checkIndex_8e157 : MethodName := ⟨RJ3, "checkIndex", "(IILjava/util/function/BiFunction;)I"⟩
def RL : String := "EmberTaleLaw"
def wsL_law_r1 : List Cond := [Cond.classLink RL 7 RX10, Cond.instantiable RX10 12, Cond.initialized RX10, Cond.classLink RL 10 RX11, Cond.instantiable RX11 23, Cond.initialized RX11, Cond.methodLink RL 9 yX10_init, Cond.instanceMethod yX10_init, Cond.code yX10_init cX10_init 2 none, Cond.methodLink RX10 1 objectInit, Cond.instanceMethod objectInit, Cond.code objectInit ⟨#[0xb1]⟩ 1 none, Cond.classLink RX10 7 RX6, Cond.instantiable RX6 2, Cond.initialized RX6, Cond.fieldLink RX10 14 "EmberTale" "text" "LEmberTale$Row;", Cond.fieldLink RX10 18 "EmberTale" "seen" "LEmberTale$Row;", Cond.classLink RX10 21 RX8, Cond.instantiable RX8 5, Cond.initialized RX8, Cond.fieldLink RX10 24 "EmberTale" "tale" "LEmberTale$Tale;", Cond.classLink RX10 28 RX0, Cond.instantiable RX0 3, Cond.initialized RX0]
def wsL_law_r2 : List Cond := [Cond.fieldLink RX10 33 "EmberTale" "camp" "LEmberTale$Camp;", Cond.fieldLink RX10 37 "EmberTale" "trial" "LEmberTale$Camp;", Cond.classLink RX10 40 RX7, Cond.instantiable RX7 3, Cond.initialized RX7, Cond.fieldLink RX10 45 "EmberTale" "past" "LEmberTale$Shelf;", Cond.fieldLink RX10 49 "EmberTale" "kept" "LEmberTale$Shelf;", Cond.classLink RX10 52 RX5, Cond.instantiable RX5 5, Cond.initialized RX5, Cond.fieldLink RX10 57 "EmberTale" "reader" "LEmberTale$Reader;", Cond.classLink RX10 61 RX3, Cond.instantiable RX3 5, Cond.initialized RX3, Cond.fieldLink RX10 64 "EmberTale" "keeper" "LEmberTale$Keeper;", Cond.classLink RX10 68 RX9, Cond.instantiable RX9 5, Cond.initialized RX9, Cond.fieldLink RX10 71 "EmberTale" "teller" "LEmberTale$Teller;", Cond.classLink RX10 75 RX4, Cond.instantiable RX4 6, Cond.initialized RX4, Cond.fieldLink RX10 78 "EmberTale" "meeter" "LEmberTale$Meeter;", Cond.classLink RX10 82 RX1]
def wsL_law_r3 : List Cond := [Cond.instantiable RX1 3, Cond.initialized RX1, Cond.fieldLink RX10 85 "EmberTale" "chance" "LEmberTale$Chance;", Cond.methodLink RX10 11 yX6_init, Cond.instanceMethod yX6_init, Cond.code yX6_init cX6_init 2 none, Cond.methodLink RX6 3 objectInit, Cond.methodLink RX6 9 Lib.Math.max.name, Cond.static Lib.Math.max.name, Cond.initialized "java/lang/Math", Cond.code Lib.Math.max.name Lib.Math.max.code 2 (some .int), Cond.arrayClass .int, Cond.fieldLink RX6 15 "EmberTale$Row" "cells" "[I", Cond.instanceMethod yX8_init, Cond.code yX8_init cX8_init 1 none, Cond.methodLink RX8 3 objectInit, Cond.classLink RX8 9 RX6, Cond.fieldLink RX8 14 "EmberTale$Tale" "next" "LEmberTale$Row;", Cond.fieldLink RX8 20 "EmberTale$Tale" "rainfall" "LEmberTale$Row;", Cond.fieldLink RX8 23 "EmberTale$Tale" "ways" "LEmberTale$Row;", Cond.fieldLink RX8 26 "EmberTale$Tale" "waysBehind" "LEmberTale$Row;", Cond.methodLink RX8 11 yX6_init, Cond.methodLink RX10 30 yX0_init, Cond.instanceMethod yX0_init]
def wsL_law_r4 : List Cond := [Cond.code yX0_init cX0_init 2 none, Cond.methodLink RX0 3 objectInit, Cond.classLink RX0 9 RX6, Cond.fieldLink RX0 16 "EmberTale$Camp" "numbers" "LEmberTale$Row;", Cond.fieldLink RX0 20 "EmberTale$Camp" "tale" "LEmberTale$Tale;", Cond.methodLink RX0 13 yX6_init, Cond.methodLink RX10 42 yX7_init, Cond.instanceMethod yX7_init, Cond.code yX7_init cX7_init 4 none, Cond.methodLink RX7 1 objectInit, Cond.methodLink RX7 7 Lib.Math.max.name, Cond.classLink RX7 13 RX0, Cond.fieldLink RX7 15 "EmberTale$Shelf" "camps" "[LEmberTale$Camp;", Cond.methodLink RX7 21 yX0_init, Cond.methodLink RX10 54 yX5_init, Cond.instanceMethod yX5_init, Cond.code yX5_init cX5_init 2 none, Cond.methodLink RX5 3 objectInit, Cond.classLink RX5 9 RX6, Cond.fieldLink RX5 16 "EmberTale$Reader" "numbers" "LEmberTale$Row;", Cond.classLink RX5 20 RX8, Cond.fieldLink RX5 23 "EmberTale$Reader" "tale" "LEmberTale$Tale;", Cond.classLink RX5 27 RX0, Cond.fieldLink RX5 32 "EmberTale$Reader" "camp" "LEmberTale$Camp;"]
def wsL_law_r5 : List Cond := [Cond.fieldLink RX5 36 "EmberTale$Reader" "text" "LEmberTale$Row;", Cond.methodLink RX5 13 yX6_init, Cond.methodLink RX5 29 yX0_init, Cond.methodLink RX10 63 yX3_init, Cond.instanceMethod yX3_init, Cond.code yX3_init cX3_init 2 none, Cond.methodLink RX3 3 objectInit, Cond.classLink RX3 9 RX6, Cond.fieldLink RX3 14 "EmberTale$Keeper" "logs" "LEmberTale$Row;", Cond.fieldLink RX3 20 "EmberTale$Keeper" "way" "LEmberTale$Row;", Cond.fieldLink RX3 23 "EmberTale$Keeper" "tale" "LEmberTale$Tale;", Cond.methodLink RX3 11 yX6_init, Cond.methodLink RX10 70 yX9_init, Cond.instanceMethod yX9_init, Cond.code yX9_init cX9_init 2 none, Cond.methodLink RX9 3 objectInit, Cond.classLink RX9 9 RX6, Cond.fieldLink RX9 14 "EmberTale$Teller" "logs" "LEmberTale$Row;", Cond.fieldLink RX9 20 "EmberTale$Teller" "way" "LEmberTale$Row;", Cond.fieldLink RX9 23 "EmberTale$Teller" "tale" "LEmberTale$Tale;", Cond.methodLink RX9 11 yX6_init, Cond.methodLink RX10 77 yX4_init, Cond.instanceMethod yX4_init, Cond.code yX4_init cX4_init 2 none]
def wsL_law_r6 : List Cond := [Cond.methodLink RX4 3 objectInit, Cond.classLink RX4 9 RX6, Cond.fieldLink RX4 16 "EmberTale$Meeter" "pairs" "LEmberTale$Row;", Cond.fieldLink RX4 20 "EmberTale$Meeter" "pairAhead" "LEmberTale$Row;", Cond.fieldLink RX4 23 "EmberTale$Meeter" "woodBy" "LEmberTale$Row;", Cond.fieldLink RX4 26 "EmberTale$Meeter" "found" "LEmberTale$Row;", Cond.fieldLink RX4 29 "EmberTale$Meeter" "wayBackwards" "LEmberTale$Row;", Cond.fieldLink RX4 32 "EmberTale$Meeter" "tale" "LEmberTale$Tale;", Cond.methodLink RX4 13 yX6_init, Cond.methodLink RX10 84 yX1_init, Cond.instanceMethod yX1_init, Cond.code yX1_init cX1_init 2 none, Cond.methodLink RX1 3 objectInit, Cond.classLink RX1 9 RX6, Cond.fieldLink RX1 14 "EmberTale$Chance" "ways" "LEmberTale$Row;", Cond.fieldLink RX1 20 "EmberTale$Chance" "waysBehind" "LEmberTale$Row;", Cond.fieldLink RX1 23 "EmberTale$Chance" "tale" "LEmberTale$Tale;", Cond.methodLink RX1 11 yX6_init, Cond.methodLink RX10 91 yJ0_length_8abf5, Cond.instanceMethod yJ0_length_8abf5, Cond.selects RJ0 yJ0_length_8abf5 yJ0_length_8abf5, Cond.initialized RJ0, Cond.code yJ0_length_8abf5 cJ0_length_8abf5 1 (some .int), Cond.fieldLink RJ0 9 "java/lang/String" "value" "[B"]
def wsL_law_r7 : List Cond := [Cond.methodLink RJ0 335 yJ0_coder_7d493, Cond.instanceMethod yJ0_coder_7d493, Cond.selects RJ0 yJ0_coder_7d493 yJ0_coder_7d493, Cond.code yJ0_coder_7d493 cJ0_coder_7d493 1 (some .byte), Cond.fieldLink RJ0 38 "java/lang/String" "COMPACT_STRINGS" "Z", Cond.fieldLink RJ0 15 "java/lang/String" "coder" "B", Cond.methodLink RX10 97 yJ0_charAt_5068e, Cond.instanceMethod yJ0_charAt_5068e, Cond.selects RJ0 yJ0_charAt_5068e yJ0_charAt_5068e, Cond.code yJ0_charAt_5068e cJ0_charAt_5068e 2 (some .char), Cond.methodLink RJ0 492 yJ0_isLatin1_aae02, Cond.instanceMethod yJ0_isLatin1_aae02, Cond.selects RJ0 yJ0_isLatin1_aae02 yJ0_isLatin1_aae02, Cond.code yJ0_isLatin1_aae02 cJ0_isLatin1_aae02 1 (some .boolean), Cond.methodLink RJ0 495 yJ1_charAt_3b067, Cond.static yJ1_charAt_3b067, Cond.initialized RJ1, Cond.code yJ1_charAt_3b067 cJ1_charAt_3b067 2 (some .char), Cond.methodLink RJ1 9 yJ0_checkIndex_df160, Cond.static yJ0_checkIndex_df160, Cond.code yJ0_checkIndex_df160 cJ0_checkIndex_df160 2 none, Cond.fieldLink RJ0 1053 "jdk/internal/util/Preconditions" "SIOOBE_FORMATTER" "Ljava/util/function/BiFunction;", Cond.methodLink RJ0 1059 yJ3_checkIndex_8e157, Cond.static yJ3_checkIndex_8e157]
def wsL_law_r8 : List Cond := [Cond.initialized RJ3, Cond.code yJ3_checkIndex_8e157 cJ3_checkIndex_8e157 3 (some .int), Cond.methodLink RJ0 498 yJ2_charAt_3b067, Cond.static yJ2_charAt_3b067, Cond.initialized RJ2, Cond.code yJ2_charAt_3b067 cJ2_charAt_3b067 2 (some .char), Cond.methodLink RJ2 67 yJ2_checkIndex_2214a, Cond.static yJ2_checkIndex_2214a, Cond.code yJ2_checkIndex_2214a cJ2_checkIndex_2214a 2 none, Cond.methodLink RJ2 48 yJ2_length_9d52b, Cond.static yJ2_length_9d52b, Cond.code yJ2_length_9d52b cJ2_length_9d52b 1 (some .int), Cond.methodLink RJ2 414 yJ0_checkIndex_df160, Cond.methodLink RJ2 71 yJ2_getChar_3b067, Cond.static yJ2_getChar_3b067, Cond.code yJ2_getChar_3b067 cJ2_getChar_3b067 2 (some .char), Cond.fieldLink RJ2 44 "java/lang/StringUTF16" "$assertionsDisabled" "Z", Cond.fieldLink RJ2 59 "java/lang/StringUTF16" "HI_BYTE_SHIFT" "I", Cond.fieldLink RJ2 63 "java/lang/StringUTF16" "LO_BYTE_SHIFT" "I", Cond.methodLink RX10 101 yX6_add, Cond.instanceMethod yX6_add, Cond.selects RX6 yX6_add yX6_add, Cond.code yX6_add cX6_add 2 none, Cond.fieldLink RX6 21 "EmberTale$Row" "size" "I"]
def wsL_law_r9 : List Cond := [Cond.methodLink RX10 104 yX10_layText, Cond.instanceMethod yX10_layText, Cond.selects RX10 yX10_layText yX10_layText, Cond.code yX10_layText cX10_layText 1 (some .boolean), Cond.methodLink RX10 121 yX5_firstFault, Cond.instanceMethod yX5_firstFault, Cond.selects RX5 yX5_firstFault yX5_firstFault, Cond.code yX5_firstFault cX5_firstFault 3 (some .int), Cond.fieldLink RX5 51 "EmberTale$Reader" "place" "I", Cond.methodLink RX5 47 yX8_clear, Cond.instanceMethod yX8_clear, Cond.selects RX8 yX8_clear yX8_clear, Cond.code yX8_clear cX8_clear 1 none, Cond.fieldLink RX8 29 "EmberTale$Tale" "lines" "I", Cond.methodLink RX8 33 yX6_clear, Cond.instanceMethod yX6_clear, Cond.selects RX6 yX6_clear yX6_clear, Cond.code yX6_clear cX6_clear 1 none, Cond.methodLink RX5 50 yX0_clear, Cond.instanceMethod yX0_clear, Cond.selects RX0 yX0_clear yX0_clear, Cond.code yX0_clear cX0_clear 1 none, Cond.fieldLink RX0 27 "EmberTale$Camp" "hours" "I", Cond.methodLink RX0 24 yX6_clear]
def wsL_law_r10 : List Cond := [Cond.methodLink RX5 55 yX6_size, Cond.instanceMethod yX6_size, Cond.selects RX6 yX6_size yX6_size, Cond.code yX6_size cX6_size 1 (some .int), Cond.methodLink RX5 58 yX5_readItem, Cond.instanceMethod yX5_readItem, Cond.selects RX5 yX5_readItem yX5_readItem, Cond.code yX5_readItem cX5_readItem 1 (some .boolean), Cond.methodLink RX5 61 yX5_take, Cond.instanceMethod yX5_take, Cond.selects RX5 yX5_take yX5_take, Cond.code yX5_take cX5_take 2 (some .int), Cond.methodLink RX5 75 yX6_get, Cond.instanceMethod yX6_get, Cond.selects RX6 yX6_get yX6_get, Cond.code yX6_get cX6_get 2 (some .int), Cond.methodLink RX5 64 yX5_readFigures, Cond.instanceMethod yX5_readFigures, Cond.selects RX5 yX5_readFigures yX5_readFigures, Cond.code yX5_readFigures cX5_readFigures 4 (some .boolean), Cond.methodLink RX5 85 yX6_clear, Cond.methodLink RX5 86 yX5_figureOf, Cond.static yX5_figureOf, Cond.code yX5_figureOf cX5_figureOf 1 (some .int)]
def wsL_law_r11 : List Cond := [Cond.methodLink RX5 89 yX6_add, Cond.methodLink RX5 68 yX8_addLine, Cond.instanceMethod yX8_addLine, Cond.selects RX8 yX8_addLine yX8_addLine, Cond.code yX8_addLine cX8_addLine 3 (some .boolean), Cond.methodLink RX8 40 yX6_isFull, Cond.instanceMethod yX6_isFull, Cond.selects RX6 yX6_isFull yX6_isFull, Cond.code yX6_isFull cX6_isFull 1 (some .boolean), Cond.methodLink RX8 44 yX6_get, Cond.methodLink RX8 48 yX6_add, Cond.methodLink RX5 72 yX5_readNumbers, Cond.instanceMethod yX5_readNumbers, Cond.selects RX5 yX5_readNumbers yX5_readNumbers, Cond.code yX5_readNumbers cX5_readNumbers 5 (some .boolean), Cond.methodLink RX5 92 yX5_readNumber, Cond.instanceMethod yX5_readNumber, Cond.selects RX5 yX5_readNumber yX5_readNumber, Cond.code yX5_readNumber cX5_readNumber 3 (some .int), Cond.methodLink RX5 79 yX8_addRain, Cond.instanceMethod yX8_addRain, Cond.selects RX8 yX8_addRain yX8_addRain, Cond.code yX8_addRain cX8_addRain 2 (some .boolean), Cond.static yX10_within]
def wsL_law_r12 : List Cond := [Cond.code yX10_within cX10_within 3 (some .boolean), Cond.methodLink RX5 82 yX0_addCompany, Cond.instanceMethod yX0_addCompany, Cond.selects RX0 yX0_addCompany yX0_addCompany, Cond.code yX0_addCompany cX0_addCompany 3 (some .boolean), Cond.methodLink RX0 35 yX6_isFull, Cond.methodLink RX0 39 yX6_get, Cond.methodLink RX0 43 yX8_isLine, Cond.instanceMethod yX8_isLine, Cond.selects RX8 yX8_isLine yX8_isLine, Cond.code yX8_isLine cX8_isLine 2 (some .boolean), Cond.methodLink RX0 53 yX6_add, Cond.methodLink RX10 253 yX5_readAWhole, Cond.instanceMethod yX5_readAWhole, Cond.selects RX5 yX5_readAWhole yX5_readAWhole, Cond.code yX5_readAWhole cX5_readAWhole 1 (some .boolean), Cond.methodLink RX5 39 yX0_companies, Cond.instanceMethod yX0_companies, Cond.selects RX0 yX0_companies yX0_companies, Cond.code yX0_companies cX0_companies 1 (some .int), Cond.methodLink RX0 56 yX6_size, Cond.methodLink RX5 43 yX8_tellsAllItNames, Cond.instanceMethod yX8_tellsAllItNames, Cond.selects RX8 yX8_tellsAllItNames yX8_tellsAllItNames]
def wsL_law_r13 : List Cond := [Cond.code yX8_tellsAllItNames cX8_tellsAllItNames 3 (some .boolean), Cond.methodLink RX8 55 yX6_size, Cond.methodLink RX8 59 yX8_isLine, Cond.methodLink RX10 256 yX5_tale, Cond.instanceMethod yX5_tale, Cond.selects RX5 yX5_tale yX5_tale, Cond.code yX5_tale cX5_tale 1 (some (.object "EmberTale$Tale")), Cond.methodLink RX10 259 yX8_become, Cond.instanceMethod yX8_become, Cond.selects RX8 yX8_become yX8_become, Cond.code yX8_become cX8_become 2 none, Cond.methodLink RX8 36 yX6_become, Cond.instanceMethod yX6_become, Cond.selects RX6 yX6_become yX6_become, Cond.code yX6_become cX6_become 3 none, Cond.methodLink RX6 25 yX6_clear, Cond.methodLink RX6 28 yX6_size, Cond.methodLink RX6 31 yX6_get, Cond.methodLink RX6 35 yX6_add, Cond.methodLink RX10 261 yX5_camp, Cond.instanceMethod yX5_camp, Cond.selects RX5 yX5_camp yX5_camp, Cond.code yX5_camp cX5_camp 1 (some (.object "EmberTale$Camp")), Cond.methodLink RX10 233 yX0_become]
def wsL_law_r14 : List Cond := [Cond.instanceMethod yX0_become, Cond.selects RX0 yX0_become yX0_become, Cond.code yX0_become cX0_become 2 none, Cond.methodLink RX0 31 yX6_become, Cond.methodLink RX10 108 yX6_clear, Cond.methodLink RX10 246 yX7_clear, Cond.instanceMethod yX7_clear, Cond.selects RX7 yX7_clear yX7_clear, Cond.code yX7_clear cX7_clear 1 none, Cond.fieldLink RX7 24 "EmberTale$Shelf" "size" "I", Cond.methodLink RL 12 yX11_init, Cond.instanceMethod yX11_init, Cond.code yX11_init cX11_init 1 none, Cond.methodLink RX11 1 objectInit, Cond.fieldLink RX11 7 "EmberTaleModel" "camp" "[I", Cond.fieldLink RX11 13 "EmberTaleModel" "read" "[I", Cond.fieldLink RX11 16 "EmberTaleModel" "now" "[I", Cond.fieldLink RX11 19 "EmberTaleModel" "aside" "[I", Cond.fieldLink RX11 22 "EmberTaleModel" "past" "[I", Cond.fieldLink RX11 25 "EmberTaleModel" "kept" "[I", Cond.fieldLink RX11 28 "EmberTaleModel" "sights" "[I", Cond.fieldLink RX11 31 "EmberTaleModel" "text" "[I", Cond.fieldLink RX11 34 "EmberTaleModel" "row" "[I", Cond.fieldLink RX11 37 "EmberTaleModel" "best" "[I"]
def wsL_law_r15 : List Cond := [Cond.fieldLink RX11 40 "EmberTaleModel" "logs" "[I", Cond.fieldLink RX11 43 "EmberTaleModel" "wave" "[I", Cond.fieldLink RX11 46 "EmberTaleModel" "by" "[I", Cond.fieldLink RX11 49 "EmberTaleModel" "whence" "[I", Cond.fieldLink RX11 52 "EmberTaleModel" "way" "[I", Cond.fieldLink RX11 55 "EmberTaleModel" "ways" "[I", Cond.fieldLink RX11 58 "EmberTaleModel" "then" "[I", Cond.methodLink RX11 61 yX11_line, Cond.static yX11_line, Cond.code yX11_line cX11_line 4 none, Cond.methodLink RX11 65 yX11_company, Cond.static yX11_company, Cond.code yX11_company cX11_company 7 none, Cond.methodLink RX11 69 yX11_begins, Cond.instanceMethod yX11_begins, Cond.selects RX11 yX11_begins yX11_begins, Cond.code yX11_begins cX11_begins 4 none, Cond.fieldLink RX11 72 "EmberTaleModel" "undos" "I", Cond.fieldLink RX11 76 "EmberTaleModel" "keptMany" "I", Cond.fieldLink RX11 79 "EmberTaleModel" "sightMany" "I", Cond.methodLink RL 13 yX10_write, Cond.instanceMethod yX10_write, Cond.selects RX10 yX10_write yX10_write, Cond.code yX10_write cX10_write 2 (some .int)]
def wsL_law_r16 : List Cond := [Cond.methodLink RX10 111 yX10_within, Cond.methodLink RX10 115 yX6_isFull, Cond.methodLink RX10 118 yX6_size, Cond.methodLink RL 17 yX11_write, Cond.instanceMethod yX11_write, Cond.selects RX11 yX11_write yX11_write, Cond.code yX11_write cX11_write 2 (some .int), Cond.constantLong RX11 82 (32), Cond.constantLong RX11 84 (126), Cond.fieldLink RX11 90 "EmberTaleModel" "size" "I", Cond.methodLink RX11 86 yX11_in, Cond.static yX11_in, Cond.code yX11_in cX11_in 6 (some .boolean), Cond.methodLink RL 18 yX10_wipe, Cond.instanceMethod yX10_wipe, Cond.selects RX10 yX10_wipe yX10_wipe, Cond.code yX10_wipe cX10_wipe 2 (some .int), Cond.methodLink RL 22 yX11_wipe, Cond.instanceMethod yX11_wipe, Cond.selects RX11 yX11_wipe yX11_wipe, Cond.code yX11_wipe cX11_wipe 2 (some .int), Cond.methodLink RL 23 yX10_fault, Cond.instanceMethod yX10_fault, Cond.selects RX10 yX10_fault yX10_fault]
def wsL_law_r17 : List Cond := [Cond.code yX10_fault cX10_fault 1 (some .int), Cond.methodLink RL 26 yX11_fault, Cond.instanceMethod yX11_fault, Cond.selects RX11 yX11_fault yX11_fault, Cond.code yX11_fault cX11_fault 1 (some .int), Cond.methodLink RX11 131 yX11_reads, Cond.instanceMethod yX11_reads, Cond.selects RX11 yX11_reads yX11_reads, Cond.code yX11_reads cX11_reads 2 (some .int), Cond.fieldLink RX11 93 "EmberTaleModel" "at" "I", Cond.methodLink RX11 128 yX11_readsItem, Cond.instanceMethod yX11_readsItem, Cond.selects RX11 yX11_readsItem yX11_readsItem, Cond.code yX11_readsItem cX11_readsItem 2 (some .boolean), Cond.methodLink RX11 96 yX11_here, Cond.instanceMethod yX11_here, Cond.selects RX11 yX11_here yX11_here, Cond.code yX11_here cX11_here 1 (some .int), Cond.methodLink RX11 118 yX11_readsLine, Cond.instanceMethod yX11_readsLine, Cond.selects RX11 yX11_readsLine yX11_readsLine, Cond.code yX11_readsLine cX11_readsLine 3 (some .boolean), Cond.methodLink RX11 104 yX11_isFigure, Cond.static yX11_isFigure]
def wsL_law_r18 : List Cond := [Cond.code yX11_isFigure cX11_isFigure 1 (some .boolean), Cond.constantLong RX11 100 (48), Cond.constantLong RX11 102 (57), Cond.methodLink RX11 122 yX11_readsRain, Cond.instanceMethod yX11_readsRain, Cond.selects RX11 yX11_readsRain yX11_readsRain, Cond.code yX11_readsRain cX11_readsRain 1 (some .boolean), Cond.fieldLink RX11 108 "EmberTaleModel" "value" "I", Cond.methodLink RX11 111 yX11_number, Cond.instanceMethod yX11_number, Cond.selects RX11 yX11_number yX11_number, Cond.code yX11_number cX11_number 3 (some .boolean), Cond.methodLink RX11 125 yX11_readsCompany, Cond.instanceMethod yX11_readsCompany, Cond.selects RX11 yX11_readsCompany yX11_readsCompany, Cond.code yX11_readsCompany cX11_readsCompany 5 (some .boolean), Cond.methodLink RX11 115 yX11_takes, Cond.instanceMethod yX11_takes, Cond.selects RX11 yX11_takes yX11_takes, Cond.code yX11_takes cX11_takes 3 (some .boolean), Cond.methodLink RL 27 yX10_lay, Cond.instanceMethod yX10_lay, Cond.selects RX10 yX10_lay yX10_lay, Cond.code yX10_lay cX10_lay 1 (some .int)]
def wsL_law_r19 : List Cond := [Cond.methodLink RX10 124 yX0_companies, Cond.methodLink RL 30 yX11_lay, Cond.instanceMethod yX11_lay, Cond.selects RX11 yX11_lay yX11_lay, Cond.code yX11_lay cX11_lay 1 (some .int), Cond.methodLink RX11 134 yX11_areTold, Cond.instanceMethod yX11_areTold, Cond.selects RX11 yX11_areTold yX11_areTold, Cond.code yX11_areTold cX11_areTold 3 (some .boolean), Cond.methodLink RX11 137 yX11_copies, Cond.static yX11_copies, Cond.code yX11_copies cX11_copies 6 none, Cond.methodLink RL 31 yX10_line, Cond.instanceMethod yX10_line, Cond.selects RX10 yX10_line yX10_line, Cond.code yX10_line cX10_line 3 (some .int), Cond.methodLink RX10 127 yX8_isLine, Cond.methodLink RX10 131 yX10_isWood, Cond.static yX10_isWood, Cond.code yX10_isWood cX10_isWood 1 (some .boolean), Cond.methodLink RX10 134 yX8_behind, Cond.instanceMethod yX8_behind, Cond.selects RX8 yX8_behind yX8_behind, Cond.code yX8_behind cX8_behind 4 (some .int)]
def wsL_law_r20 : List Cond := [Cond.methodLink RL 35 yX11_line_, Cond.instanceMethod yX11_line_, Cond.selects RX11 yX11_line_ yX11_line_, Cond.code yX11_line_ cX11_line_ 3 (some .int), Cond.methodLink RX11 147 yX11_isLine, Cond.instanceMethod yX11_isLine, Cond.selects RX11 yX11_isLine yX11_isLine, Cond.code yX11_isLine cX11_isLine 2 (some .boolean), Cond.methodLink RX11 150 yX11_isWood, Cond.static yX11_isWood, Cond.code yX11_isWood cX11_isWood 1 (some .boolean), Cond.constantLong RX11 141 (3), Cond.methodLink RX11 143 yX11_behind, Cond.instanceMethod yX11_behind, Cond.selects RX11 yX11_behind yX11_behind, Cond.code yX11_behind cX11_behind 4 (some .int), Cond.methodLink RL 36 yX10_rain, Cond.instanceMethod yX10_rain, Cond.selects RX10 yX10_rain yX10_rain, Cond.code yX10_rain cX10_rain 2 (some .int), Cond.methodLink RX10 138 yX0_hours, Cond.instanceMethod yX0_hours, Cond.selects RX0 yX0_hours yX0_hours, Cond.code yX0_hours cX0_hours 1 (some .int)]
def wsL_law_r21 : List Cond := [Cond.methodLink RX10 141 yX8_rainAt, Cond.instanceMethod yX8_rainAt, Cond.selects RX8 yX8_rainAt yX8_rainAt, Cond.code yX8_rainAt cX8_rainAt 3 (some .int), Cond.methodLink RX8 70 yJ9_floorMod_7cf53, Cond.static yJ9_floorMod_7cf53, Cond.initialized RJ9, Cond.code yJ9_floorMod_7cf53 cJ9_floorMod_7cf53 3 (some .int), Cond.methodLink RL 39 yX11_rain, Cond.instanceMethod yX11_rain, Cond.selects RX11 yX11_rain yX11_rain, Cond.code yX11_rain cX11_rain 2 (some .int), Cond.constantLong RX11 153 (99), Cond.methodLink RX11 155 yX11_rainAt, Cond.instanceMethod yX11_rainAt, Cond.selects RX11 yX11_rainAt yX11_rainAt, Cond.code yX11_rainAt cX11_rainAt 2 (some .int), Cond.methodLink RL 40 yX10_company, Cond.instanceMethod yX10_company, Cond.selects RX10 yX10_company yX10_company, Cond.code yX10_company cX10_company 3 (some .int), Cond.methodLink RX10 145 yX0_isCompany, Cond.instanceMethod yX0_isCompany, Cond.selects RX0 yX0_isCompany yX0_isCompany]
def wsL_law_r22 : List Cond := [Cond.code yX0_isCompany cX0_isCompany 2 (some .boolean), Cond.methodLink RX0 60 yX0_companies, Cond.methodLink RX10 148 yX0_get, Cond.instanceMethod yX0_get, Cond.selects RX0 yX0_get yX0_get, Cond.code yX0_get cX0_get 3 (some .int), Cond.methodLink RL 43 yX11_company_, Cond.instanceMethod yX11_company_, Cond.selects RX11 yX11_company_ yX11_company_, Cond.code yX11_company_ cX11_company_ 3 (some .int), Cond.methodLink RX11 159 yX11_isCompany, Cond.instanceMethod yX11_isCompany, Cond.selects RX11 yX11_isCompany yX11_isCompany, Cond.code yX11_isCompany cX11_isCompany 2 (some .boolean), Cond.methodLink RL 44 yX10_put, Cond.instanceMethod yX10_put, Cond.selects RX10 yX10_put yX10_put, Cond.code yX10_put cX10_put 3 (some .int), Cond.methodLink RX10 151 yX0_canFeed, Cond.instanceMethod yX0_canFeed, Cond.selects RX0 yX0_canFeed yX0_canFeed, Cond.code yX0_canFeed cX0_canFeed 3 (some .boolean), Cond.methodLink RX0 73 yX0_isIn, Cond.instanceMethod yX0_isIn]
def wsL_law_r23 : List Cond := [Cond.selects RX0 yX0_isIn yX0_isIn, Cond.code yX0_isIn cX0_isIn 2 (some .boolean), Cond.methodLink RX0 67 yX0_get, Cond.methodLink RX10 155 yX7_push, Cond.instanceMethod yX7_push, Cond.selects RX7 yX7_push yX7_push, Cond.code yX7_push cX7_push 3 none, Cond.fieldLink RX7 32 "EmberTale$Shelf" "first" "I", Cond.methodLink RX7 28 yX7_isFull, Cond.instanceMethod yX7_isFull, Cond.selects RX7 yX7_isFull yX7_isFull, Cond.code yX7_isFull cX7_isFull 1 (some .boolean), Cond.methodLink RX7 35 yX7_slotOf, Cond.instanceMethod yX7_slotOf, Cond.selects RX7 yX7_slotOf yX7_slotOf, Cond.code yX7_slotOf cX7_slotOf 3 (some (.object "EmberTale$Camp")), Cond.methodLink RX7 43 yJ9_floorMod_7cf53, Cond.methodLink RX7 39 yX0_become, Cond.methodLink RX10 159 yX0_feed, Cond.instanceMethod yX0_feed, Cond.selects RX0 yX0_feed yX0_feed, Cond.code yX0_feed cX0_feed 4 none, Cond.methodLink RX0 76 yX0_change, Cond.instanceMethod yX0_change]
def wsL_law_r24 : List Cond := [Cond.selects RX0 yX0_change yX0_change, Cond.code yX0_change cX0_change 4 none, Cond.methodLink RX0 70 yX0_set, Cond.instanceMethod yX0_set, Cond.selects RX0 yX0_set yX0_set, Cond.code yX0_set cX0_set 4 none, Cond.methodLink RX0 63 yX6_set, Cond.instanceMethod yX6_set, Cond.selects RX6 yX6_set yX6_set, Cond.code yX6_set cX6_set 3 none, Cond.methodLink RX0 79 yX2_fed, Cond.static yX2_fed, Cond.initialized RX2, Cond.code yX2_fed cX2_fed 2 (some .int), Cond.methodLink RX2 15 Lib.Math.min.name, Cond.static Lib.Math.min.name, Cond.code Lib.Math.min.name Lib.Math.min.code 2 (some .int), Cond.methodLink RX2 21 Lib.Math.max.name, Cond.methodLink RX2 9 yX2_heatOf, Cond.static yX2_heatOf, Cond.code yX2_heatOf cX2_heatOf 1 (some .int), Cond.methodLink RX0 84 yX0_setHot, Cond.instanceMethod yX0_setHot, Cond.selects RX0 yX0_setHot yX0_setHot]
def wsL_law_r25 : List Cond := [Cond.code yX0_setHot cX0_setHot 3 none, Cond.methodLink RX0 87 yX8_behind, Cond.methodLink RL 47 yX11_put, Cond.instanceMethod yX11_put, Cond.selects RX11 yX11_put yX11_put, Cond.code yX11_put cX11_put 3 (some .int), Cond.methodLink RX11 172 yX11_mayPut, Cond.static yX11_mayPut, Cond.code yX11_mayPut cX11_mayPut 3 (some .boolean), Cond.methodLink RX11 176 yX11_remember, Cond.instanceMethod yX11_remember, Cond.selects RX11 yX11_remember yX11_remember, Cond.code yX11_remember cX11_remember 2 none, Cond.methodLink RX11 179 yX11_puts, Cond.instanceMethod yX11_puts, Cond.selects RX11 yX11_puts yX11_puts, Cond.code yX11_puts cX11_puts 5 none, Cond.methodLink RX11 162 yX11_hotter, Cond.static yX11_hotter, Cond.code yX11_hotter cX11_hotter 3 (some .int), Cond.methodLink RX11 165 yX11_goesOut, Cond.static yX11_goesOut, Cond.code yX11_goesOut cX11_goesOut 2 none, Cond.methodLink RL 48 yX10_pass]
def wsL_law_r26 : List Cond := [Cond.instanceMethod yX10_pass, Cond.selects RX10 yX10_pass yX10_pass, Cond.code yX10_pass cX10_pass 3 (some .int), Cond.methodLink RX10 163 yX0_burnAnHour, Cond.instanceMethod yX0_burnAnHour, Cond.selects RX0 yX0_burnAnHour yX0_burnAnHour, Cond.code yX0_burnAnHour cX0_burnAnHour 3 none, Cond.methodLink RX0 90 yX8_rainAt, Cond.methodLink RX0 93 yX2_burnt, Cond.static yX2_burnt, Cond.code yX2_burnt cX2_burnt 4 (some .int), Cond.methodLink RX10 166 yX0_firesIn, Cond.instanceMethod yX0_firesIn, Cond.selects RX0 yX0_firesIn yX0_firesIn, Cond.code yX0_firesIn cX0_firesIn 3 (some .int), Cond.methodLink RL 51 yX11_pass, Cond.instanceMethod yX11_pass, Cond.selects RX11 yX11_pass yX11_pass, Cond.code yX11_pass cX11_pass 3 (some .int), Cond.constantLong RX11 183 (24), Cond.methodLink RX11 185 yX11_hourGoes, Cond.instanceMethod yX11_hourGoes, Cond.selects RX11 yX11_hourGoes yX11_hourGoes, Cond.code yX11_hourGoes cX11_hourGoes 4 none]
def wsL_law_r27 : List Cond := [Cond.methodLink RX11 168 yX11_cooler, Cond.static yX11_cooler, Cond.code yX11_cooler cX11_cooler 4 (some .int), Cond.methodLink RX11 189 yX11_insOf, Cond.instanceMethod yX11_insOf, Cond.selects RX11 yX11_insOf yX11_insOf, Cond.code yX11_insOf cX11_insOf 4 (some .int), Cond.methodLink RL 52 yX10_light, Cond.instanceMethod yX10_light, Cond.selects RX10 yX10_light yX10_light, Cond.code yX10_light cX10_light 3 (some .int), Cond.methodLink RX10 169 yX10_areTwo, Cond.instanceMethod yX10_areTwo, Cond.selects RX10 yX10_areTwo yX10_areTwo, Cond.code yX10_areTwo cX10_areTwo 3 (some .boolean), Cond.methodLink RX10 172 yX0_canKindle, Cond.instanceMethod yX0_canKindle, Cond.selects RX0 yX0_canKindle yX0_canKindle, Cond.code yX0_canKindle cX0_canKindle 3 (some .boolean), Cond.methodLink RX10 175 yX0_kindle, Cond.instanceMethod yX0_kindle, Cond.selects RX0 yX0_kindle yX0_kindle, Cond.code yX0_kindle cX0_kindle 3 none, Cond.methodLink RL 55 yX11_light]
def wsL_law_r28 : List Cond := [Cond.instanceMethod yX11_light, Cond.selects RX11 yX11_light yX11_light, Cond.code yX11_light cX11_light 3 (some .int), Cond.methodLink RX11 193 yX11_mayLight, Cond.static yX11_mayLight, Cond.code yX11_mayLight cX11_mayLight 3 (some .boolean), Cond.methodLink RX11 196 yX11_lights, Cond.static yX11_lights, Cond.code yX11_lights cX11_lights 3 none, Cond.methodLink RL 56 yX10_join, Cond.instanceMethod yX10_join, Cond.selects RX10 yX10_join yX10_join, Cond.code yX10_join cX10_join 3 (some .int), Cond.methodLink RX10 178 yX0_isIn, Cond.methodLink RX10 181 yX0_merge, Cond.instanceMethod yX0_merge, Cond.selects RX0 yX0_merge yX0_merge, Cond.code yX0_merge cX0_merge 5 none, Cond.methodLink RX0 97 Lib.Math.min.name, Cond.methodLink RL 59 yX11_join, Cond.instanceMethod yX11_join, Cond.selects RX11 yX11_join yX11_join, Cond.code yX11_join cX11_join 6 (some .int), Cond.methodLink RX11 199 yX11_isIn]
def wsL_law_r29 : List Cond := [Cond.instanceMethod yX11_isIn, Cond.selects RX11 yX11_isIn yX11_isIn, Cond.code yX11_isIn cX11_isIn 2 (some .boolean), Cond.methodLink RL 60 yX10_hand, Cond.instanceMethod yX10_hand, Cond.selects RX10 yX10_hand yX10_hand, Cond.code yX10_hand cX10_hand 4 (some .int), Cond.methodLink RX10 184 yX0_canMove, Cond.instanceMethod yX0_canMove, Cond.selects RX0 yX0_canMove yX0_canMove, Cond.code yX0_canMove cX0_canMove 4 (some .boolean), Cond.methodLink RX10 187 yX0_move, Cond.instanceMethod yX0_move, Cond.selects RX0 yX0_move yX0_move, Cond.code yX0_move cX0_move 4 none, Cond.methodLink RL 64 yX11_hand, Cond.instanceMethod yX11_hand, Cond.selects RX11 yX11_hand yX11_hand, Cond.code yX11_hand cX11_hand 4 (some .int), Cond.methodLink RX11 202 yX11_mayHand, Cond.instanceMethod yX11_mayHand, Cond.selects RX11 yX11_mayHand yX11_mayHand, Cond.code yX11_mayHand cX11_mayHand 4 (some .boolean), Cond.methodLink RL 65 yX10_undo]
def wsL_law_r30 : List Cond := [Cond.instanceMethod yX10_undo, Cond.selects RX10 yX10_undo yX10_undo, Cond.code yX10_undo cX10_undo 1 (some .int), Cond.methodLink RX10 191 yX7_pop, Cond.instanceMethod yX7_pop, Cond.selects RX7 yX7_pop yX7_pop, Cond.code yX7_pop cX7_pop 3 (some .boolean), Cond.methodLink RX10 195 yX7_size, Cond.instanceMethod yX7_size, Cond.selects RX7 yX7_size yX7_size, Cond.code yX7_size cX7_size 1 (some .int), Cond.methodLink RL 68 yX11_undo, Cond.instanceMethod yX11_undo, Cond.selects RX11 yX11_undo yX11_undo, Cond.code yX11_undo cX11_undo 1 (some .int), Cond.methodLink RL 69 yX10_lasts, Cond.instanceMethod yX10_lasts, Cond.selects RX10 yX10_lasts yX10_lasts, Cond.code yX10_lasts cX10_lasts 2 (some .int), Cond.methodLink RX10 196 yX0_hoursLeft, Cond.instanceMethod yX0_hoursLeft, Cond.selects RX0 yX0_hoursLeft yX0_hoursLeft, Cond.code yX0_hoursLeft cX0_hoursLeft 4 (some .int), Cond.methodLink RL 72 yX11_lasts]
def wsL_law_r31 : List Cond := [Cond.instanceMethod yX11_lasts, Cond.selects RX11 yX11_lasts yX11_lasts, Cond.code yX11_lasts cX11_lasts 4 (some .int), Cond.methodLink RL 73 yX10_stays, Cond.instanceMethod yX10_stays, Cond.selects RX10 yX10_stays yX10_stays, Cond.code yX10_stays cX10_stays 5 (some .int), Cond.methodLink RX10 199 yX3_fewest, Cond.instanceMethod yX3_fewest, Cond.selects RX3 yX3_fewest yX3_fewest, Cond.code yX3_fewest cX3_fewest 5 (some .int), Cond.fieldLink RX3 33 "EmberTale$Keeper" "start" "I", Cond.methodLink RX3 37 Lib.Math.min.name, Cond.fieldLink RX3 43 "EmberTale$Keeper" "hours" "I", Cond.methodLink RX3 27 yX0_hours, Cond.methodLink RX3 45 yX6_clear, Cond.methodLink RX3 48 yX0_get, Cond.methodLink RX3 51 yX6_add, Cond.methodLink RX3 54 yX6_fill, Cond.instanceMethod yX6_fill, Cond.selects RX6 yX6_fill yX6_fill, Cond.code yX6_fill cX6_fill 3 none, Cond.methodLink RX3 57 yX3_isKept, Cond.instanceMethod yX3_isKept]
def wsL_law_r32 : List Cond := [Cond.selects RX3 yX3_isKept yX3_isKept, Cond.code yX3_isKept cX3_isKept 6 (some .boolean), Cond.methodLink RX3 64 yX3_isKeptBy, Cond.instanceMethod yX3_isKeptBy, Cond.selects RX3 yX3_isKeptBy yX3_isKeptBy, Cond.methodLink RX3 67 yX6_set, Cond.methodLink RX3 71 yX8_rainAt, Cond.methodLink RX3 76 yX2_burnt, Cond.code yX3_isKeptBy cX3_isKeptBy 7 (some .boolean), Cond.methodLink RX3 82 yX2_fed, Cond.methodLink RX3 61 yX6_get, Cond.methodLink RX10 203 yX3_woodAhead, Cond.instanceMethod yX3_woodAhead, Cond.selects RX3 yX3_woodAhead yX3_woodAhead, Cond.code yX3_woodAhead cX3_woodAhead 2 (some .int), Cond.methodLink RL 76 yX11_stays, Cond.instanceMethod yX11_stays, Cond.selects RX11 yX11_stays yX11_stays, Cond.code yX11_stays cX11_stays 5 (some .int), Cond.constantLong RX11 213 (6), Cond.constant RX11 209 (1000000), Cond.methodLink RX11 215 yX11_layLogs, Cond.instanceMethod yX11_layLogs, Cond.selects RX11 yX11_layLogs yX11_layLogs]
def wsL_law_r33 : List Cond := [Cond.code yX11_layLogs cX11_layLogs 2 none, Cond.methodLink RX11 219 yX11_keeps, Cond.instanceMethod yX11_keeps, Cond.selects RX11 yX11_keeps yX11_keeps, Cond.code yX11_keeps cX11_keeps 7 (some .int), Cond.methodLink RX11 210 yX11_keptBy, Cond.instanceMethod yX11_keptBy, Cond.selects RX11 yX11_keptBy yX11_keptBy, Cond.code yX11_keptBy cX11_keptBy 10 (some .int), Cond.methodLink RX11 206 yX11_giveBack, Cond.instanceMethod yX11_giveBack, Cond.selects RX11 yX11_giveBack yX11_giveBack, Cond.code yX11_giveBack cX11_giveBack 3 (some .int), Cond.methodLink RL 77 yX10_tell, Cond.instanceMethod yX10_tell, Cond.selects RX10 yX10_tell yX10_tell, Cond.code yX10_tell cX10_tell 5 (some .int), Cond.methodLink RX10 206 yX9_fewest, Cond.instanceMethod yX9_fewest, Cond.selects RX9 yX9_fewest yX9_fewest, Cond.code yX9_fewest cX9_fewest 5 (some .int), Cond.fieldLink RX9 39 "EmberTale$Teller" "wanted" "I", Cond.fieldLink RX9 52 "EmberTale$Teller" "length" "I", Cond.methodLink RX9 29 yX0_get]
def wsL_law_r34 : List Cond := [Cond.methodLink RX9 33 yX8_reached, Cond.instanceMethod yX8_reached, Cond.selects RX8 yX8_reached yX8_reached, Cond.code yX8_reached cX8_reached 4 (some .int), Cond.methodLink RX8 75 yX8_oneStepOn, Cond.instanceMethod yX8_oneStepOn, Cond.selects RX8 yX8_oneStepOn yX8_oneStepOn, Cond.code yX8_oneStepOn cX8_oneStepOn 5 (some .int), Cond.methodLink RX8 78 yX8_comingFrom, Cond.instanceMethod yX8_comingFrom, Cond.selects RX8 yX8_comingFrom yX8_comingFrom, Cond.code yX8_comingFrom cX8_comingFrom 4 (some .int), Cond.methodLink RX8 66 yX8_behind, Cond.methodLink RX9 43 yX6_clear, Cond.methodLink RX9 46 yX6_add, Cond.methodLink RX9 49 yX6_fill, Cond.methodLink RX9 55 yX9_isTold, Cond.instanceMethod yX9_isTold, Cond.selects RX9 yX9_isTold yX9_isTold, Cond.code yX9_isTold cX9_isTold 5 (some .boolean), Cond.methodLink RX9 61 yX9_isToldBy, Cond.instanceMethod yX9_isToldBy, Cond.selects RX9 yX9_isToldBy yX9_isToldBy, Cond.code yX9_isToldBy cX9_isToldBy 7 (some .boolean)]
def wsL_law_r35 : List Cond := [Cond.methodLink RX9 65 yX2_fed, Cond.methodLink RX9 59 yX6_get, Cond.methodLink RX9 70 yX6_set, Cond.methodLink RX9 74 yX8_comingFrom, Cond.methodLink RX10 207 yX9_woodAt, Cond.instanceMethod yX9_woodAt, Cond.selects RX9 yX9_woodAt yX9_woodAt, Cond.code yX9_woodAt cX9_woodAt 2 (some .int), Cond.methodLink RL 80 yX11_tell, Cond.instanceMethod yX11_tell, Cond.selects RX11 yX11_tell yX11_tell, Cond.code yX11_tell cX11_tell 5 (some .int), Cond.methodLink RX11 228 yX11_tellsFor, Cond.instanceMethod yX11_tellsFor, Cond.selects RX11 yX11_tellsFor yX11_tellsFor, Cond.code yX11_tellsFor cX11_tellsFor 8 (some .int), Cond.methodLink RX11 225 yX11_tellsBy, Cond.instanceMethod yX11_tellsBy, Cond.selects RX11 yX11_tellsBy yX11_tellsBy, Cond.code yX11_tellsBy cX11_tellsBy 7 (some .boolean), Cond.methodLink RX11 222 yX11_goes, Cond.instanceMethod yX11_goes, Cond.selects RX11 yX11_goes yX11_goes, Cond.code yX11_goes cX11_goes 4 (some .int)]
def wsL_law_r36 : List Cond := [Cond.methodLink RL 81 yX10_meet, Cond.instanceMethod yX10_meet, Cond.selects RX10 yX10_meet yX10_meet, Cond.code yX10_meet cX10_meet 5 (some .int), Cond.methodLink RX10 210 yX4_shortest, Cond.instanceMethod yX4_shortest, Cond.selects RX4 yX4_shortest yX4_shortest, Cond.code yX4_shortest cX4_shortest 7 (some .int), Cond.methodLink RX4 36 yX6_clear, Cond.methodLink RX4 39 yX6_fill, Cond.methodLink RX4 42 yX4_reach, Cond.instanceMethod yX4_reach, Cond.selects RX4 yX4_reach yX4_reach, Cond.code yX4_reach cX4_reach 6 none, Cond.methodLink RX4 50 yX6_get, Cond.methodLink RX4 63 yX6_set, Cond.methodLink RX4 67 yX6_add, Cond.methodLink RX4 46 yX6_size, Cond.methodLink RX4 54 yX4_traceBack, Cond.instanceMethod yX4_traceBack, Cond.selects RX4 yX4_traceBack yX4_traceBack, Cond.code yX4_traceBack cX4_traceBack 4 (some .int), Cond.methodLink RX4 57 yX8_comingFrom, Cond.methodLink RX10 213 yX4_woodAt]
def wsL_law_r37 : List Cond := [Cond.instanceMethod yX4_woodAt, Cond.selects RX4 yX4_woodAt yX4_woodAt, Cond.code yX4_woodAt cX4_woodAt 2 (some .int), Cond.methodLink RL 84 yX11_meet, Cond.instanceMethod yX11_meet, Cond.selects RX11 yX11_meet yX11_meet, Cond.code yX11_meet cX11_meet 5 (some .int), Cond.methodLink RX11 234 yX11_meets, Cond.instanceMethod yX11_meets, Cond.selects RX11 yX11_meets yX11_meets, Cond.code yX11_meets cX11_meets 9 (some .int), Cond.methodLink RX11 231 yX11_laysWay, Cond.instanceMethod yX11_laysWay, Cond.selects RX11 yX11_laysWay yX11_laysWay, Cond.code yX11_laysWay cX11_laysWay 5 (some .int), Cond.methodLink RL 85 yX10_can, Cond.instanceMethod yX10_can, Cond.selects RX10 yX10_can yX10_can, Cond.code yX10_can cX10_can 2 (some .int), Cond.methodLink RX10 214 yX8_reached, Cond.methodLink RL 88 yX11_can, Cond.instanceMethod yX11_can, Cond.selects RX11 yX11_can yX11_can, Cond.code yX11_can cX11_can 6 (some .int)]
def wsL_law_r38 : List Cond := [Cond.methodLink RX11 237 yX11_has, Cond.static yX11_has, Cond.code yX11_has cX11_has 2 (some .boolean), Cond.methodLink RL 89 yX10_give, Cond.instanceMethod yX10_give, Cond.selects RX10 yX10_give yX10_give, Cond.code yX10_give cX10_give 5 (some .int), Cond.methodLink RX10 217 yX10_wouldHelp, Cond.instanceMethod yX10_wouldHelp, Cond.selects RX10 yX10_wouldHelp yX10_wouldHelp, Cond.code yX10_wouldHelp cX10_wouldHelp 5 (some .boolean), Cond.methodLink RL 92 yX11_give, Cond.instanceMethod yX11_give, Cond.selects RX11 yX11_give yX11_give, Cond.code yX11_give cX11_give 5 (some .int), Cond.methodLink RX11 240 yX11_isKeptWith, Cond.instanceMethod yX11_isKeptWith, Cond.selects RX11 yX11_isKeptWith yX11_isKeptWith, Cond.code yX11_isKeptWith cX11_isKeptWith 5 (some .boolean), Cond.methodLink RL 93 yX10_see, Cond.instanceMethod yX10_see, Cond.selects RX10 yX10_see yX10_see, Cond.code yX10_see cX10_see 2 (some .int), Cond.methodLink RL 96 yX11_see]
def wsL_law_r39 : List Cond := [Cond.instanceMethod yX11_see, Cond.selects RX11 yX11_see yX11_see, Cond.code yX11_see cX11_see 2 (some .int), Cond.methodLink RL 97 yX10_forget, Cond.instanceMethod yX10_forget, Cond.selects RX10 yX10_forget yX10_forget, Cond.code yX10_forget cX10_forget 2 (some .int), Cond.methodLink RL 100 yX11_forget, Cond.instanceMethod yX11_forget, Cond.selects RX11 yX11_forget yX11_forget, Cond.code yX11_forget cX11_forget 2 (some .int), Cond.methodLink RL 101 yX10_from, Cond.instanceMethod yX10_from, Cond.selects RX10 yX10_from yX10_from, Cond.code yX10_from cX10_from 2 (some .int), Cond.methodLink RX10 221 yX8_origins, Cond.instanceMethod yX8_origins, Cond.selects RX8 yX8_origins yX8_origins, Cond.code yX8_origins cX8_origins 5 (some .int), Cond.methodLink RX8 81 yX8_endOf, Cond.instanceMethod yX8_endOf, Cond.selects RX8 yX8_endOf yX8_endOf, Cond.code yX8_endOf cX8_endOf 5 (some .int), Cond.methodLink RL 104 yX11_from]
def wsL_law_r40 : List Cond := [Cond.instanceMethod yX11_from, Cond.selects RX11 yX11_from yX11_from, Cond.code yX11_from cX11_from 6 (some .int), Cond.methodLink RL 105 yX10_rows, Cond.instanceMethod yX10_rows, Cond.selects RX10 yX10_rows yX10_rows, Cond.code yX10_rows cX10_rows 4 (some .int), Cond.methodLink RX10 225 yX8_waysBetween, Cond.instanceMethod yX8_waysBetween, Cond.selects RX8 yX8_waysBetween yX8_waysBetween, Cond.code yX8_waysBetween cX8_waysBetween 5 (some .int), Cond.methodLink RX8 85 yX6_fill, Cond.methodLink RX8 88 yX6_set, Cond.methodLink RX8 92 yX8_lengthenWays, Cond.instanceMethod yX8_lengthenWays, Cond.selects RX8 yX8_lengthenWays yX8_lengthenWays, Cond.code yX8_lengthenWays cX8_lengthenWays 4 none, Cond.methodLink RL 108 yX11_rows, Cond.instanceMethod yX11_rows, Cond.selects RX11 yX11_rows yX11_rows, Cond.code yX11_rows cX11_rows 7 (some .int), Cond.constantLong RX11 244 (8), Cond.methodLink RL 109 yX10_rains, Cond.instanceMethod yX10_rains]
def wsL_law_r41 : List Cond := [Cond.selects RX10 yX10_rains yX10_rains, Cond.code yX10_rains cX10_rains 5 (some .int), Cond.methodLink RX10 229 yX1_ofBeingIn, Cond.instanceMethod yX1_ofBeingIn, Cond.selects RX1 yX1_ofBeingIn yX1_ofBeingIn, Cond.code yX1_ofBeingIn cX1_ofBeingIn 9 (some .int), Cond.methodLink RX1 27 yX6_fill, Cond.methodLink RX1 32 yX0_get, Cond.methodLink RX1 36 yX6_set, Cond.methodLink RX1 40 yX0_hours, Cond.methodLink RX1 44 yX8_rainAt, Cond.methodLink RX1 50 yX1_burn, Cond.instanceMethod yX1_burn, Cond.selects RX1 yX1_burn yX1_burn, Cond.code yX1_burn cX1_burn 5 none, Cond.methodLink RX1 59 yX2_burnt, Cond.methodLink RX1 54 yX6_get, Cond.methodLink RX1 65 yX1_addWays, Cond.instanceMethod yX1_addWays, Cond.selects RX1 yX1_addWays yX1_addWays, Cond.code yX1_addWays cX1_addWays 3 none, Cond.methodLink RX1 68 yX6_become, Cond.methodLink RX1 56 yX1_commonDivisor, Cond.static yX1_commonDivisor]
def wsL_law_r42 : List Cond := [Cond.code yX1_commonDivisor cX1_commonDivisor 6 (some .int), Cond.methodLink RL 113 yX11_rains, Cond.instanceMethod yX11_rains, Cond.selects RX11 yX11_rains yX11_rains, Cond.code yX11_rains cX11_rains 14 (some .int), Cond.constantLong RX11 246 (10), Cond.methodLink RX11 248 yX11_lowest, Cond.static yX11_lowest, Cond.code yX11_lowest cX11_lowest 11 (some .int), Cond.methodLink RL 114 yX10_winter, Cond.instanceMethod yX10_winter, Cond.selects RX10 yX10_winter yX10_winter, Cond.code yX10_winter cX10_winter 5 (some .int), Cond.methodLink RX10 236 yX10_draw, Cond.static yX10_draw, Cond.code yX10_draw cX10_draw 4 (some .int), Cond.constantLong RX10 264 (7919), Cond.constantLong RX10 266 (6151), Cond.constantLong RX10 268 (65521), Cond.methodLink RX10 239 yX0_meetDraw, Cond.instanceMethod yX0_meetDraw, Cond.selects RX0 yX0_meetDraw yX0_meetDraw, Cond.code yX0_meetDraw cX0_meetDraw 7 none, Cond.methodLink RX0 102 yX0_burnAnHour]
def wsL_law_r43 : List Cond := [Cond.methodLink RX0 105 yX0_canKindle, Cond.methodLink RX0 109 yX0_kindle, Cond.methodLink RX0 112 yX0_canFeed, Cond.methodLink RX0 115 yX0_feed, Cond.methodLink RX10 242 yX0_linesTold, Cond.instanceMethod yX0_linesTold, Cond.selects RX0 yX0_linesTold yX0_linesTold, Cond.code yX0_linesTold cX0_linesTold 3 (some .int), Cond.methodLink RL 117 yX11_winter, Cond.instanceMethod yX11_winter, Cond.selects RX11 yX11_winter yX11_winter, Cond.code yX11_winter cX11_winter 12 (some .int), Cond.constantLong RX11 252 (9999), Cond.constantLong RX11 254 (60), Cond.constantLong RX11 256 (7919), Cond.constantLong RX11 258 (6151), Cond.constantLong RX11 260 (65521), Cond.methodLink RX11 262 yX11_toldIn, Cond.static yX11_toldIn, Cond.code yX11_toldIn cX11_toldIn 3 (some .int), Cond.methodLink RL 118 yX10_keep, Cond.instanceMethod yX10_keep, Cond.selects RX10 yX10_keep yX10_keep, Cond.code yX10_keep cX10_keep 1 (some .int)]
def wsL_law_r44 : List Cond := [Cond.methodLink RX10 245 yX7_isFull, Cond.methodLink RL 121 yX11_keep, Cond.instanceMethod yX11_keep, Cond.selects RX11 yX11_keep yX11_keep, Cond.code yX11_keep cX11_keep 1 (some .int), Cond.methodLink RL 122 yX10_back, Cond.instanceMethod yX10_back, Cond.selects RX10 yX10_back yX10_back, Cond.code yX10_back cX10_back 1 (some .int), Cond.methodLink RL 125 yX11_back, Cond.instanceMethod yX11_back, Cond.selects RX11 yX11_back yX11_back, Cond.code yX11_back cX11_back 1 (some .int), Cond.methodLink RL 126 yX10_count, Cond.instanceMethod yX10_count, Cond.selects RX10 yX10_count yX10_count, Cond.code yX10_count cX10_count 2 (some .int), Cond.methodLink RX10 247 yX8_lines, Cond.instanceMethod yX8_lines, Cond.selects RX8 yX8_lines yX8_lines, Cond.code yX8_lines cX8_lines 1 (some .int), Cond.methodLink RX10 250 yX0_allLogs, Cond.instanceMethod yX0_allLogs, Cond.selects RX0 yX0_allLogs yX0_allLogs]
def wsL_law_r45 : List Cond := [Cond.code yX0_allLogs cX0_allLogs 4 (some .int), Cond.methodLink RL 129 yX11_count, Cond.instanceMethod yX11_count, Cond.selects RX11 yX11_count yX11_count, Cond.code yX11_count cX11_count 2 (some .int), Cond.methodLink RX11 265 yX11_logsOfAll, Cond.instanceMethod yX11_logsOfAll, Cond.selects RX11 yX11_logsOfAll yX11_logsOfAll, Cond.code yX11_logsOfAll cX11_logsOfAll 3 (some .int)]
def wsL_law : List Cond := (wsL_law_r1 ++ (wsL_law_r2 ++ (wsL_law_r3 ++ (wsL_law_r4 ++ (wsL_law_r5 ++ (wsL_law_r6 ++ (wsL_law_r7 ++ (wsL_law_r8 ++ (wsL_law_r9 ++ (wsL_law_r10 ++ (wsL_law_r11 ++ (wsL_law_r12 ++ (wsL_law_r13 ++ (wsL_law_r14 ++ (wsL_law_r15 ++ (wsL_law_r16 ++ (wsL_law_r17 ++ (wsL_law_r18 ++ (wsL_law_r19 ++ (wsL_law_r20 ++ (wsL_law_r21 ++ (wsL_law_r22 ++ (wsL_law_r23 ++ (wsL_law_r24 ++ (wsL_law_r25 ++ (wsL_law_r26 ++ (wsL_law_r27 ++ (wsL_law_r28 ++ (wsL_law_r29 ++ (wsL_law_r30 ++ (wsL_law_r31 ++ (wsL_law_r32 ++ (wsL_law_r33 ++ (wsL_law_r34 ++ (wsL_law_r35 ++ (wsL_law_r36 ++ (wsL_law_r37 ++ (wsL_law_r38 ++ (wsL_law_r39 ++ (wsL_law_r40 ++ (wsL_law_r41 ++ (wsL_law_r42 ++ (wsL_law_r43 ++ (wsL_law_r44 ++ wsL_law_r45)))))))))))))))))))))))))))))))))))))))))))) ++ wsX100 ++ wsX110 ++ wsX60 ++ wsX80 ++ wsX00 ++ wsX70 ++ wsX50 ++ wsX30 ++ wsX90 ++ wsX40 ++ wsX10 ++ ([] : List Cond)
theorem inlX0 : ∀ w ∈ wsX00, w ∈ wsL_law := fun _ h => List.mem_append_left _ (List.mem_append_left _ (List.mem_append_left _ (List.mem_append_left _ (List.mem_append_left _ (List.mem_append_left _ (List.mem_append_left _ (List.mem_append_right _ h)))))))
theorem inlX1 : ∀ w ∈ wsX10, w ∈ wsL_law := fun _ h => List.mem_append_left _ (List.mem_append_right _ h)
theorem inlX3 : ∀ w ∈ wsX30, w ∈ wsL_law := fun _ h => List.mem_append_left _ (List.mem_append_left _ (List.mem_append_left _ (List.mem_append_left _ (List.mem_append_right _ h))))
theorem inlX4 : ∀ w ∈ wsX40, w ∈ wsL_law := fun _ h => List.mem_append_left _ (List.mem_append_left _ (List.mem_append_right _ h))
theorem inlX5 : ∀ w ∈ wsX50, w ∈ wsL_law := fun _ h => List.mem_append_left _ (List.mem_append_left _ (List.mem_append_left _ (List.mem_append_left _ (List.mem_append_left _ (List.mem_append_right _ h)))))
theorem inlX6 : ∀ w ∈ wsX60, w ∈ wsL_law := fun _ h => List.mem_append_left _ (List.mem_append_left _ (List.mem_append_left _ (List.mem_append_left _ (List.mem_append_left _ (List.mem_append_left _ (List.mem_append_left _ (List.mem_append_left _ (List.mem_append_left _ (List.mem_append_right _ h)))))))))
theorem inlX7 : ∀ w ∈ wsX70, w ∈ wsL_law := fun _ h => List.mem_append_left _ (List.mem_append_left _ (List.mem_append_left _ (List.mem_append_left _ (List.mem_append_left _ (List.mem_append_left _ (List.mem_append_right _ h))))))
theorem inlX8 : ∀ w ∈ wsX80, w ∈ wsL_law := fun _ h => List.mem_append_left _ (List.mem_append_left _ (List.mem_append_left _ (List.mem_append_left _ (List.mem_append_left _ (List.mem_append_left _ (List.mem_append_left _ (List.mem_append_left _ (List.mem_append_right _ h))))))))
theorem inlX9 : ∀ w ∈ wsX90, w ∈ wsL_law := fun _ h => List.mem_append_left _ (List.mem_append_left _ (List.mem_append_left _ (List.mem_append_right _ h)))
theorem inlX10 : ∀ w ∈ wsX100, w ∈ wsL_law := fun _ h => List.mem_append_left _ (List.mem_append_left _ (List.mem_append_left _ (List.mem_append_left _ (List.mem_append_left _ (List.mem_append_left _ (List.mem_append_left _ (List.mem_append_left _ (List.mem_append_left _ (List.mem_append_left _ (List.mem_append_left _ (List.mem_append_right _ h)))))))))))
theorem inlX11 : ∀ w ∈ wsX110, w ∈ wsL_law := fun _ h => List.mem_append_left _ (List.mem_append_left _ (List.mem_append_left _ (List.mem_append_left _ (List.mem_append_left _ (List.mem_append_left _ (List.mem_append_left _ (List.mem_append_left _ (List.mem_append_left _ (List.mem_append_left _ (List.mem_append_right _ h))))))))))
abbrev vwCl : List vw_C := [(RX0, TX0, 3), (RX1, TX1, 3), (RX3, TX3, 5), (RX4, TX4, 6), (RX5, TX5, 5), (RX6, TX6, 2), (RX7, TX7, 3), (RX8, TX8, 5), (RX9, TX9, 5), (RX10, TX10, 12), (RX11, TX11, 23)]
