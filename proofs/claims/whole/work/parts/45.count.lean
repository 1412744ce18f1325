/-! count -/
theorem tale5 : isTale 5 := ⟨rfl, ⟨rfl, rfl, by decide⟩, ⟨rfl, rfl, by decide⟩, ⟨rfl, rfl, by decide⟩, ⟨rfl, rfl, by decide⟩⟩
theorem camp14 : isCamp 14 5 := ⟨rfl, rfl, rfl, by decide⟩
def cnt (v a0 a1 a2 a3 a4 a5 a6 a7 a8 a9 : Int) : Int := if v = 0 then a0 else if v = 1 then a1 else if v = 2 then a2 else if v = 3 then a3 else if v = 4 then a4 else if v = 5 then a5 else if v = 6 then a6 else if v = 7 then a7 else if v = 8 then a8 else if v = 9 then a9 else -1
set_option maxHeartbeats 1000000 in
set_option maxRecDepth 4000 in
theorem c_pastsize {X : vX} {s : St}  : OkI X 0 64 [.ref 20] s (Is1 (vF s 20 2) s) := by
  refine Ok.of (r := vm_m64) (ls := [some (.ref 20)]) rfl (Nat.le_of_ble_eq_true rfl) rfl (fun d hd => ?_)
  refine Gs_aload_n p64_0 rfl rfl ?_
  refine Gs_getI p64_1 (by first | rfl | assumption | exact (show isTale _ from by assumption).1 | exact (show isCamp _ _ from by assumption).1 | exact (show isRow _ _ from by assumption).1) (by rfl) ?_
  refine Gs_iret p64_4 rfl ⟨_, rfl, ?_⟩
  first | exact ⟨rfl, rfl⟩ | exact ⟨by ((repeat' split) <;> omega), rfl⟩ | (simp only [Is1, Is0]; refine ⟨?_, rfl⟩; (repeat' split) <;> omega)

set_option maxHeartbeats 1000000 in
set_option maxRecDepth 4000 in
theorem c_keptsize {X : vX} {s : St}  : OkI X 0 64 [.ref 46] s (Is1 (vF s 46 2) s) := by
  refine Ok.of (r := vm_m64) (ls := [some (.ref 46)]) rfl (Nat.le_of_ble_eq_true rfl) rfl (fun d hd => ?_)
  refine Gs_aload_n p64_0 rfl rfl ?_
  refine Gs_getI p64_1 (by first | rfl | assumption | exact (show isTale _ from by assumption).1 | exact (show isCamp _ _ from by assumption).1 | exact (show isRow _ _ from by assumption).1) (by rfl) ?_
  refine Gs_iret p64_4 rfl ⟨_, rfl, ?_⟩
  first | exact ⟨rfl, rfl⟩ | exact ⟨by ((repeat' split) <;> omega), rfl⟩ | (simp only [Is1, Is0]; refine ⟨?_, rfl⟩; (repeat' split) <;> omega)

set_option maxHeartbeats 1000000 in
set_option maxRecDepth 4000 in
theorem k_count {X : vX} {s : St} {n v : Int} (hv : rg v) (hT : TaleOk s 5) (hC : CampOk s 14 n) : OkI X 4 120 [.ref 0, .int (iI v)] s (Is1 (cnt v (vF s 5 4) n (vF s 14 2) (sm (inS s 14) n) (sm (lgS s 14) n) (sm (tdS s 14) n) (vF s 3 1) (vF s 20 2) (vF s 46 2) (vF s 1 1)) s) := by
  refine Ok.of (r := vm_m120) (ls := [some (.ref 0), some (.int (iI v))]) rfl (Nat.le_of_ble_eq_true rfl) rfl (fun d hd => ?_)
  refine Gs_iload_n p120_0 rfl rfl ?_
  by_cases e1_0 : v = 0
  · subst e1_0
    refine Gs_tabIn (off := 55) (tgt := 56) p120_1 hv (by omega) (by omega) rfl (by rfl) ?_
    refine Gs_aload_n p120_56 rfl rfl ?_
    refine Gs_getR p120_57 (by first | rfl | assumption | exact (show isTale _ from by assumption).1 | exact (show isCamp _ _ from by assumption).1 | exact (show isRow _ _ from by assumption).1) (by rfl) ?_
    refine Gs_callV0I p120_60 (by rfl) (by rfl) (by rfl) (Nat.le_of_ble_eq_true rfl) (by decide) (c_lines tale5 hT) (by omega) ?_
    refine Gs_iret p120_63 rfl ⟨_, rfl, ?_⟩
    first | exact ⟨rfl, rfl⟩ | skip
    all_goals (refine ⟨?_, rfl⟩; unfold cnt; (repeat' split) <;> first | rfl | (exfalso; omega))
  by_cases e1_1 : v = 1
  · subst e1_1
    refine Gs_tabIn (off := 63) (tgt := 64) p120_1 hv (by omega) (by omega) rfl (by rfl) ?_
    refine Gs_aload_n p120_64 rfl rfl ?_
    refine Gs_getR p120_65 (by first | rfl | assumption | exact (show isTale _ from by assumption).1 | exact (show isCamp _ _ from by assumption).1 | exact (show isRow _ _ from by assumption).1) (by rfl) ?_
    refine Gs_callV0I p120_68 (by rfl) (by rfl) (by rfl) (Nat.le_of_ble_eq_true rfl) (by decide) (c_companies camp14 hC) (by omega) ?_
    refine Gs_iret p120_71 rfl ⟨_, rfl, ?_⟩
    first | exact ⟨rfl, rfl⟩ | skip
    all_goals (refine ⟨?_, rfl⟩; unfold cnt; (repeat' split) <;> first | rfl | (exfalso; omega))
  by_cases e1_2 : v = 2
  · subst e1_2
    refine Gs_tabIn (off := 71) (tgt := 72) p120_1 hv (by omega) (by omega) rfl (by rfl) ?_
    refine Gs_aload_n p120_72 rfl rfl ?_
    refine Gs_getR p120_73 (by first | rfl | assumption | exact (show isTale _ from by assumption).1 | exact (show isCamp _ _ from by assumption).1 | exact (show isRow _ _ from by assumption).1) (by rfl) ?_
    refine Gs_callV0I p120_76 (by rfl) (by rfl) (by rfl) (Nat.le_of_ble_eq_true rfl) (by decide) (c_hours camp14 hC) (by omega) ?_
    refine Gs_iret p120_79 rfl ⟨_, rfl, ?_⟩
    first | exact ⟨rfl, rfl⟩ | skip
    all_goals (refine ⟨?_, rfl⟩; unfold cnt; (repeat' split) <;> first | rfl | (exfalso; omega))
  by_cases e1_3 : v = 3
  · subst e1_3
    refine Gs_tabIn (off := 79) (tgt := 80) p120_1 hv (by omega) (by omega) rfl (by rfl) ?_
    refine Gs_aload_n p120_80 rfl rfl ?_
    refine Gs_getR p120_81 (by first | rfl | assumption | exact (show isTale _ from by assumption).1 | exact (show isCamp _ _ from by assumption).1 | exact (show isRow _ _ from by assumption).1) (by rfl) ?_
    refine Gs_callV0I p120_84 (by rfl) (by rfl) (by rfl) (Nat.le_of_ble_eq_true rfl) (by decide) (c_firesIn camp14 hC) (by omega) ?_
    refine Gs_iret p120_87 rfl ⟨_, rfl, ?_⟩
    first | exact ⟨rfl, rfl⟩ | skip
    all_goals (refine ⟨?_, rfl⟩; unfold cnt; (repeat' split) <;> first | rfl | (exfalso; omega))
  by_cases e1_4 : v = 4
  · subst e1_4
    refine Gs_tabIn (off := 87) (tgt := 88) p120_1 hv (by omega) (by omega) rfl (by rfl) ?_
    refine Gs_aload_n p120_88 rfl rfl ?_
    refine Gs_getR p120_89 (by first | rfl | assumption | exact (show isTale _ from by assumption).1 | exact (show isCamp _ _ from by assumption).1 | exact (show isRow _ _ from by assumption).1) (by rfl) ?_
    refine Gs_callV0I p120_92 (by rfl) (by rfl) (by rfl) (Nat.le_of_ble_eq_true rfl) (by decide) (c_allLogs camp14 hC) (by omega) ?_
    refine Gs_iret p120_95 rfl ⟨_, rfl, ?_⟩
    first | exact ⟨rfl, rfl⟩ | skip
    all_goals (refine ⟨?_, rfl⟩; unfold cnt; (repeat' split) <;> first | rfl | (exfalso; omega))
  by_cases e1_5 : v = 5
  · subst e1_5
    refine Gs_tabIn (off := 95) (tgt := 96) p120_1 hv (by omega) (by omega) rfl (by rfl) ?_
    refine Gs_aload_n p120_96 rfl rfl ?_
    refine Gs_getR p120_97 (by first | rfl | assumption | exact (show isTale _ from by assumption).1 | exact (show isCamp _ _ from by assumption).1 | exact (show isRow _ _ from by assumption).1) (by rfl) ?_
    refine Gs_callV0I p120_100 (by rfl) (by rfl) (by rfl) (Nat.le_of_ble_eq_true rfl) (by decide) (c_linesTold camp14 hC) (by omega) ?_
    refine Gs_iret p120_103 rfl ⟨_, rfl, ?_⟩
    first | exact ⟨rfl, rfl⟩ | skip
    all_goals (refine ⟨?_, rfl⟩; unfold cnt; (repeat' split) <;> first | rfl | (exfalso; omega))
  by_cases e1_6 : v = 6
  · subst e1_6
    refine Gs_tabIn (off := 103) (tgt := 104) p120_1 hv (by omega) (by omega) rfl (by rfl) ?_
    refine Gs_aload_n p120_104 rfl rfl ?_
    refine Gs_getR p120_105 (by first | rfl | assumption | exact (show isTale _ from by assumption).1 | exact (show isCamp _ _ from by assumption).1 | exact (show isRow _ _ from by assumption).1) (by rfl) ?_
    refine Gs_callV0I p120_108 (by rfl) (by rfl) (by rfl) (Nat.le_of_ble_eq_true rfl) (by decide) (c_size row3) (by omega) ?_
    refine Gs_iret p120_111 rfl ⟨_, rfl, ?_⟩
    first | exact ⟨rfl, rfl⟩ | skip
    all_goals (refine ⟨?_, rfl⟩; unfold cnt; (repeat' split) <;> first | rfl | (exfalso; omega))
  by_cases e1_7 : v = 7
  · subst e1_7
    refine Gs_tabIn (off := 111) (tgt := 112) p120_1 hv (by omega) (by omega) rfl (by rfl) ?_
    refine Gs_aload_n p120_112 rfl rfl ?_
    refine Gs_getR p120_113 (by first | rfl | assumption | exact (show isTale _ from by assumption).1 | exact (show isCamp _ _ from by assumption).1 | exact (show isRow _ _ from by assumption).1) (by rfl) ?_
    refine Gs_callV0I p120_116 (by rfl) (by rfl) (by rfl) (Nat.le_of_ble_eq_true rfl) (by decide) (c_pastsize) (by omega) ?_
    refine Gs_iret p120_119 rfl ⟨_, rfl, ?_⟩
    first | exact ⟨rfl, rfl⟩ | skip
    all_goals (refine ⟨?_, rfl⟩; unfold cnt; (repeat' split) <;> first | rfl | (exfalso; omega))
  by_cases e1_8 : v = 8
  · subst e1_8
    refine Gs_tabIn (off := 119) (tgt := 120) p120_1 hv (by omega) (by omega) rfl (by rfl) ?_
    refine Gs_aload_n p120_120 rfl rfl ?_
    refine Gs_getR p120_121 (by first | rfl | assumption | exact (show isTale _ from by assumption).1 | exact (show isCamp _ _ from by assumption).1 | exact (show isRow _ _ from by assumption).1) (by rfl) ?_
    refine Gs_callV0I p120_124 (by rfl) (by rfl) (by rfl) (Nat.le_of_ble_eq_true rfl) (by decide) (c_keptsize) (by omega) ?_
    refine Gs_iret p120_127 rfl ⟨_, rfl, ?_⟩
    first | exact ⟨rfl, rfl⟩ | skip
    all_goals (refine ⟨?_, rfl⟩; unfold cnt; (repeat' split) <;> first | rfl | (exfalso; omega))
  by_cases e1_9 : v = 9
  · subst e1_9
    refine Gs_tabIn (off := 127) (tgt := 128) p120_1 hv (by omega) (by omega) rfl (by rfl) ?_
    refine Gs_aload_n p120_128 rfl rfl ?_
    refine Gs_getR p120_129 (by first | rfl | assumption | exact (show isTale _ from by assumption).1 | exact (show isCamp _ _ from by assumption).1 | exact (show isRow _ _ from by assumption).1) (by rfl) ?_
    refine Gs_callV0I p120_132 (by rfl) (by rfl) (by rfl) (Nat.le_of_ble_eq_true rfl) (by decide) (c_size row1) (by omega) ?_
    refine Gs_iret p120_135 rfl ⟨_, rfl, ?_⟩
    first | exact ⟨rfl, rfl⟩ | skip
    all_goals (refine ⟨?_, rfl⟩; unfold cnt; (repeat' split) <;> first | rfl | (exfalso; omega))
  refine Gs_tabOut (tgt := 136) p120_1 hv (by omega) (by rfl) ?_
  refine Gs_iconst p120_136 ?_
  refine Gs_iret p120_137 rfl ⟨_, rfl, ?_⟩
  first | exact ⟨rfl, rfl⟩ | skip
  all_goals (refine ⟨?_, rfl⟩; unfold cnt; (repeat' split) <;> first | rfl | (exfalso; omega))

set_option maxHeartbeats 1000000 in
set_option maxRecDepth 4000 in
theorem m_count {X : vX} {s : St} {v : Int} (hv : rg v) {n : Int} (hm : MC s 98 n) : OkI X 4 201 [.ref 95, .int (iI v)] s (Is1 (cnt v (vA s 96 0) (vA s 96 2) (vA s 98 32) (sm (inM s 98) 4) (sm (fun k => vA s 98 (8 + k)) 16) (sm (fun k => vA s 98 (28 + k)) 4) (vF s 95 9) (vF s 95 5) (vF s 95 7) (vF s 95 11)) s) := by
  refine Ok.of (r := vm_m201) (ls := [some (.ref 95), some (.int (iI v))]) rfl (Nat.le_of_ble_eq_true rfl) rfl (fun d hd => ?_)
  refine Gs_iload_n p201_0 rfl rfl ?_
  by_cases e1_0 : v = 0
  · subst e1_0
    refine Gs_tabIn (off := 55) (tgt := 56) p201_1 hv (by omega) (by omega) rfl (by rfl) ?_
    refine Gs_aload_n p201_56 rfl rfl ?_
    refine Gs_getR p201_57 (by first | rfl | assumption | exact (show isTale _ from by assumption).1 | exact (show isCamp _ _ from by assumption).1 | exact (show isRow _ _ from by assumption).1) (by rfl) ?_
    refine Gs_iconst p201_60 ?_
    refine Gs_iald p201_61 (by first | rfl | assumption | exact (show isTale _ from by assumption).1 | exact (show isCamp _ _ from by assumption).1 | exact (show isRow _ _ from by assumption).1) (by omega) (by omega) (by omega) ?_
    refine Gs_iret p201_62 rfl ⟨_, rfl, ?_⟩
    first | exact ⟨rfl, rfl⟩ | skip
    all_goals (refine ⟨?_, rfl⟩; unfold cnt; (repeat' split) <;> first | rfl | (exfalso; omega))
  by_cases e1_1 : v = 1
  · subst e1_1
    refine Gs_tabIn (off := 62) (tgt := 63) p201_1 hv (by omega) (by omega) rfl (by rfl) ?_
    refine Gs_aload_n p201_63 rfl rfl ?_
    refine Gs_getR p201_64 (by first | rfl | assumption | exact (show isTale _ from by assumption).1 | exact (show isCamp _ _ from by assumption).1 | exact (show isRow _ _ from by assumption).1) (by rfl) ?_
    refine Gs_iconst p201_67 ?_
    refine Gs_iald p201_68 (by first | rfl | assumption | exact (show isTale _ from by assumption).1 | exact (show isCamp _ _ from by assumption).1 | exact (show isRow _ _ from by assumption).1) (by omega) (by omega) (by omega) ?_
    refine Gs_iret p201_69 rfl ⟨_, rfl, ?_⟩
    first | exact ⟨rfl, rfl⟩ | skip
    all_goals (refine ⟨?_, rfl⟩; unfold cnt; (repeat' split) <;> first | rfl | (exfalso; omega))
  by_cases e1_2 : v = 2
  · subst e1_2
    refine Gs_tabIn (off := 69) (tgt := 70) p201_1 hv (by omega) (by omega) rfl (by rfl) ?_
    refine Gs_aload_n p201_70 rfl rfl ?_
    refine Gs_getR p201_71 (by first | rfl | assumption | exact (show isTale _ from by assumption).1 | exact (show isCamp _ _ from by assumption).1 | exact (show isRow _ _ from by assumption).1) (by rfl) ?_
    refine Gs_bipush p201_74 (by decide) ?_
    refine Gs_iald p201_76 (by first | rfl | assumption | exact (show isTale _ from by assumption).1 | exact (show isCamp _ _ from by assumption).1 | exact (show isRow _ _ from by assumption).1) (by omega) (by omega) (by omega) ?_
    refine Gs_iret p201_77 rfl ⟨_, rfl, ?_⟩
    first | exact ⟨rfl, rfl⟩ | skip
    all_goals (refine ⟨?_, rfl⟩; unfold cnt; (repeat' split) <;> first | rfl | (exfalso; omega))
  by_cases e1_3 : v = 3
  · subst e1_3
    refine Gs_tabIn (off := 77) (tgt := 78) p201_1 hv (by omega) (by omega) rfl (by rfl) ?_
    refine Gs_aload_n p201_78 rfl rfl ?_
    refine Gs_aload_n p201_79 rfl rfl ?_
    refine Gs_getR p201_80 (by first | rfl | assumption | exact (show isTale _ from by assumption).1 | exact (show isCamp _ _ from by assumption).1 | exact (show isRow _ _ from by assumption).1) (by rfl) ?_
    refine Gs_callV1I p201_83 (by rfl) (by rfl) (by rfl) (Nat.le_of_ble_eq_true rfl) (by decide) (c_insOf rfl hm) (by omega) ?_
    refine Gs_iret p201_86 rfl ⟨_, rfl, ?_⟩
    first | exact ⟨rfl, rfl⟩ | skip
    all_goals (refine ⟨?_, rfl⟩; unfold cnt; (repeat' split) <;> first | rfl | (exfalso; omega))
  by_cases e1_4 : v = 4
  · subst e1_4
    refine Gs_tabIn (off := 86) (tgt := 87) p201_1 hv (by omega) (by omega) rfl (by rfl) ?_
    refine Gs_aload_n p201_87 rfl rfl ?_
    refine Gs_callV0I p201_88 (by rfl) (by rfl) (by rfl) (Nat.le_of_ble_eq_true rfl) (by decide) (c_logsOfAll) (by omega) ?_
    refine Gs_iret p201_91 rfl ⟨_, rfl, ?_⟩
    first | exact ⟨rfl, rfl⟩ | skip
    all_goals (refine ⟨?_, rfl⟩; unfold cnt; (repeat' split) <;> first | rfl | (exfalso; omega))
  by_cases e1_5 : v = 5
  · subst e1_5
    refine Gs_tabIn (off := 91) (tgt := 92) p201_1 hv (by omega) (by omega) rfl (by rfl) ?_
    refine Gs_aload_n p201_92 rfl rfl ?_
    refine Gs_getR p201_93 (by first | rfl | assumption | exact (show isTale _ from by assumption).1 | exact (show isCamp _ _ from by assumption).1 | exact (show isRow _ _ from by assumption).1) (by rfl) ?_
    refine Gs_callS1I p201_96 (by rfl) (Nat.le_of_ble_eq_true rfl) (by decide) (c_toldIn rfl) (by omega) ?_
    refine Gs_iret p201_99 rfl ⟨_, rfl, ?_⟩
    first | exact ⟨rfl, rfl⟩ | skip
    all_goals (refine ⟨?_, rfl⟩; unfold cnt; (repeat' split) <;> first | rfl | (exfalso; omega))
  by_cases e1_6 : v = 6
  · subst e1_6
    refine Gs_tabIn (off := 99) (tgt := 100) p201_1 hv (by omega) (by omega) rfl (by rfl) ?_
    refine Gs_aload_n p201_100 rfl rfl ?_
    refine Gs_getI p201_101 (by first | rfl | assumption | exact (show isTale _ from by assumption).1 | exact (show isCamp _ _ from by assumption).1 | exact (show isRow _ _ from by assumption).1) (by rfl) ?_
    refine Gs_iret p201_104 rfl ⟨_, rfl, ?_⟩
    first | exact ⟨rfl, rfl⟩ | skip
    all_goals (refine ⟨?_, rfl⟩; unfold cnt; (repeat' split) <;> first | rfl | (exfalso; omega))
  by_cases e1_7 : v = 7
  · subst e1_7
    refine Gs_tabIn (off := 104) (tgt := 105) p201_1 hv (by omega) (by omega) rfl (by rfl) ?_
    refine Gs_aload_n p201_105 rfl rfl ?_
    refine Gs_getI p201_106 (by first | rfl | assumption | exact (show isTale _ from by assumption).1 | exact (show isCamp _ _ from by assumption).1 | exact (show isRow _ _ from by assumption).1) (by rfl) ?_
    refine Gs_iret p201_109 rfl ⟨_, rfl, ?_⟩
    first | exact ⟨rfl, rfl⟩ | skip
    all_goals (refine ⟨?_, rfl⟩; unfold cnt; (repeat' split) <;> first | rfl | (exfalso; omega))
  by_cases e1_8 : v = 8
  · subst e1_8
    refine Gs_tabIn (off := 109) (tgt := 110) p201_1 hv (by omega) (by omega) rfl (by rfl) ?_
    refine Gs_aload_n p201_110 rfl rfl ?_
    refine Gs_getI p201_111 (by first | rfl | assumption | exact (show isTale _ from by assumption).1 | exact (show isCamp _ _ from by assumption).1 | exact (show isRow _ _ from by assumption).1) (by rfl) ?_
    refine Gs_iret p201_114 rfl ⟨_, rfl, ?_⟩
    first | exact ⟨rfl, rfl⟩ | skip
    all_goals (refine ⟨?_, rfl⟩; unfold cnt; (repeat' split) <;> first | rfl | (exfalso; omega))
  by_cases e1_9 : v = 9
  · subst e1_9
    refine Gs_tabIn (off := 114) (tgt := 115) p201_1 hv (by omega) (by omega) rfl (by rfl) ?_
    refine Gs_aload_n p201_115 rfl rfl ?_
    refine Gs_getI p201_116 (by first | rfl | assumption | exact (show isTale _ from by assumption).1 | exact (show isCamp _ _ from by assumption).1 | exact (show isRow _ _ from by assumption).1) (by rfl) ?_
    refine Gs_iret p201_119 rfl ⟨_, rfl, ?_⟩
    first | exact ⟨rfl, rfl⟩ | skip
    all_goals (refine ⟨?_, rfl⟩; unfold cnt; (repeat' split) <;> first | rfl | (exfalso; omega))
  refine Gs_tabOut (tgt := 120) p201_1 hv (by omega) (by rfl) ?_
  refine Gs_iconst p201_120 ?_
  refine Gs_iret p201_121 rfl ⟨_, rfl, ?_⟩
  first | exact ⟨rfl, rfl⟩ | skip
  all_goals (refine ⟨?_, rfl⟩; unfold cnt; (repeat' split) <;> first | rfl | (exfalso; omega))

theorem T_count {X : vX} {K : Int} {s : St} (hR : Rel K s) (hK : K < 512) {x1 : Int} (g1 : rg x1) : Both X K s 120 201 [.int (iI x1)] := by
  obtain ⟨h0, h1, h2, h3, h4, h5, h6⟩ := id hR
  have A := k_count (X := X) g1 h3.1 h4.1
  have B := m_count (X := X) g1 h4.mc
  rw [← h4.ins, ← h4.tds, ← h4.lgs, h2.2.2.1, h5.2.2.2.2.1, h6.2.2.2.1, h1.2.2.1, h3.2.2.1, ← show vF s 14 2 = vA s 98 32 from h4.2.1] at B
  refine Both.ask hR ?_ (A.more (by decide)) (B.more (by decide)) (Kept.rfl' s)
  have c1 := h4.1
  have i1 := sm_b (f := inS s 14) (n := vA s 96 2) c1.1 (fun k _ _ => inS_b s 14 k)
  have i2 := sm_b (f := tdS s 14) (a := 0) (b := 100000) (n := vA s 96 2) c1.1 (fun k b0 b1 => c1.b b0 b1 (w := 7) (by omega) (by omega))
  have i3 := sm_b (f := lgS s 14) (a := 0 * 4) (b := 99 * 4) (n := vA s 96 2) c1.1 (fun k b0 b1 => sm_b (by omega) (fun w d0 d1 => by
    have b := c1.b b0 b1 (w := 2 + w) (by omega) (by omega)
    have e : loW (2 + w) = 0 ∧ hiW (2 + w) = 99 := by
      unfold loW hiW
      constructor <;> ((repeat' split) <;> omega)
    omega))
  obtain ⟨t1, t2, t3⟩ := h1
  obtain ⟨u1, u2, u3⟩ := h2
  obtain ⟨v1, v2, v3⟩ := h3
  obtain ⟨w1, w2, w3⟩ := h4
  obtain ⟨p1, p2, p3, p4, p5⟩ := h5
  obtain ⟨q1, q2, q3, q4⟩ := h6
  obtain ⟨c1, c2, c3, c4, c5, c6⟩ := c1
  obtain ⟨d1, d2, d3, d4⟩ := v1
  unfold cnt
  (repeat' split) <;> exact ⟨by omega, by omega⟩