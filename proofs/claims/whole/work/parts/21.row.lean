/-! Math, Fire, Row -/
def mx (a b : Int) : Int := if a < b then b else a
def mn (a b : Int) : Int := if b < a then b else a
def heatI (w : Int) : Int := if w = 0 then 4 else if w = 1 then 6 else if w = 2 then -2 else if w = 3 then 1 else 0
def fedI (hot w : Int) : Int := mx 0 (mn 20 (hot + heatI w))
def lossI (last rain : Int) : Int := 1 + (if last = 3 then 0 else rain) + (if last = 1 then 1 else 0)
def burntI (hot last rain : Int) : Int := mx 0 (hot - lossI last rain)
def isRow (r n : Nat) : Prop := ly r = (0, 5, [some (r + 1), none]) ∧ ly (r + 1) = (1, n, []) ∧ (n : Int) < 2147483648
/-- the cells of a row up to i set to v -/
def cF (s : St) (a : Nat) (i v : Int) : St := (fun i' z' => if i' = a ∧ 0 ≤ z' ∧ z' < i then v else s.1 i' z', s.2)
theorem cF_0 (s : St) (a : Nat) (v : Int) : cF s a 0 v = s := by
  refine Prod.ext ?_ rfl
  funext i z
  show (if _ then _ else _) = _
  rw [if_neg (by omega)]
theorem cF_s (s : St) (a : Nat) {i v : Int} (h : 0 ≤ i) : sA (cF s a i v) a i v = cF s a (i + 1) v := by
  refine Prod.ext ?_ rfl
  funext i' z
  show (if i' = a ∧ z = i then v else if i' = a ∧ 0 ≤ z ∧ z < i then v else s.1 i' z) = if i' = a ∧ 0 ≤ z ∧ z < i + 1 then v else s.1 i' z
  by_cases h1 : i' = a ∧ 0 ≤ z ∧ z < i + 1
  · rw [if_pos h1]
    by_cases h2 : i' = a ∧ z = i
    · rw [if_pos h2]
    · rw [if_neg h2, if_pos (by omega)]
  · rw [if_neg h1, if_neg (by omega), if_neg (by omega)]
/-- the first i cells of row o laid into row a -/
def cC (s : St) (a o : Nat) (i : Int) : St := (fun i' z' => if i' = a ∧ 0 ≤ z' ∧ z' < i then s.1 o z' else s.1 i' z', s.2)
/-- row r as row o is -/
def sCopy (s : St) (r o : Nat) : St := sF (cC s (r + 1) (o + 1) (vF s o 1)) r 1 (vF s o 1)
set_option maxHeartbeats 1000000 in
set_option maxRecDepth 4000 in
theorem c_max {X : vX} {s : St} {a b : Int} (ha : rg a) (hb : rg b) : OkI X 0 202 [.int (iI a), .int (iI b)] s (Is1 (mx a b) s) := by
  refine Ok.of (r := vm_m202) (ls := [some (.int (iI a)), some (.int (iI b))]) rfl (Nat.le_of_ble_eq_true rfl) rfl (fun d hd => ?_)
  refine Gs_iload_n p202_0 rfl rfl ?_
  refine Gs_iload_n p202_1 rfl rfl ?_
  refine Gs_icmp_lt (tgt := 9) p202_2 (by rfl) (by first | assumption | exact ⟨by omega, by omega⟩ | (split <;> exact ⟨by omega, by omega⟩)) (by first | assumption | exact ⟨by omega, by omega⟩ | (split <;> exact ⟨by omega, by omega⟩)) (fun h2 => ?_) (fun h2 => ?_)
  · refine Gs_iload_n p202_9 rfl rfl ?_
    refine Gs_iret p202_10 rfl ⟨_, rfl, ?_⟩
    exact ⟨by unfold mx; split <;> omega, rfl⟩
  · refine Gs_iload_n p202_5 rfl rfl ?_
    refine Gs_goto (tgt := 10) p202_6 (by rfl) ?_
    refine Gs_iret p202_10 rfl ⟨_, rfl, ?_⟩
    exact ⟨by unfold mx; split <;> omega, rfl⟩

set_option maxHeartbeats 1000000 in
set_option maxRecDepth 4000 in
theorem c_min {X : vX} {s : St} {a b : Int} (ha : rg a) (hb : rg b) : OkI X 0 203 [.int (iI a), .int (iI b)] s (Is1 (mn a b) s) := by
  refine Ok.of (r := vm_m203) (ls := [some (.int (iI a)), some (.int (iI b))]) rfl (Nat.le_of_ble_eq_true rfl) rfl (fun d hd => ?_)
  refine Gs_iload_n p203_0 rfl rfl ?_
  refine Gs_iload_n p203_1 rfl rfl ?_
  refine Gs_icmp_gt (tgt := 9) p203_2 (by rfl) (by first | assumption | exact ⟨by omega, by omega⟩ | (split <;> exact ⟨by omega, by omega⟩)) (by first | assumption | exact ⟨by omega, by omega⟩ | (split <;> exact ⟨by omega, by omega⟩)) (fun h2 => ?_) (fun h2 => ?_)
  · refine Gs_iload_n p203_9 rfl rfl ?_
    refine Gs_iret p203_10 rfl ⟨_, rfl, ?_⟩
    exact ⟨by unfold mn; split <;> omega, rfl⟩
  · refine Gs_iload_n p203_5 rfl rfl ?_
    refine Gs_goto (tgt := 10) p203_6 (by rfl) ?_
    refine Gs_iret p203_10 rfl ⟨_, rfl, ?_⟩
    exact ⟨by unfold mn; split <;> omega, rfl⟩

set_option maxHeartbeats 1000000 in
set_option maxRecDepth 4000 in
theorem c_floorMod {X : vX} {s : St} {a b : Int} (ha : 0 ≤ a) (ha2 : a < 2147483648) (hb : 0 < b) (hb2 : b < 2147483648) (hx : ∃ z : Int, 0 ≤ z ∧ rg z ∧ iI a ^^^ iI b = iI z) : OkI X 0 204 [.int (iI a), .int (iI b)] s (Is1 (a % b) s) := by
  refine Ok.of (r := vm_m204) (ls := [some (.int (iI a)), some (.int (iI b)), none]) rfl (Nat.le_of_ble_eq_true rfl) rfl (fun d hd => ?_)
  obtain ⟨z, hz0, hz, hx⟩ := hx
  have hm1 := Int.emod_nonneg a (show b ≠ 0 by omega)
  have hm2 := Int.emod_lt_of_pos a hb
  refine Gs_iload_n p204_0 rfl rfl ?_
  refine Gs_iload_n p204_1 rfl rfl ?_
  refine Gs_irem p204_2 (by omega) (by omega) (by omega) (by omega) ?_
  refine Gs_ist2 p204_3 (by first | rfl | assumption) ?_
  refine Gs_iload_n p204_4 rfl rfl ?_
  refine Gs_iload_n p204_5 rfl rfl ?_
  refine Gs_ixor p204_6 hx ?_
  refine Gs_if_ge (tgt := 18) p204_7 (by rfl) hz (fun h7 => ?_) (fun h7 => absurd ‹_› (by first | omega | assumption))
  refine Gs_iload_n p204_18 rfl rfl ?_
  refine Gs_iret p204_19 rfl ⟨_, rfl, ?_⟩
  first | exact ⟨rfl, rfl⟩ | exact ⟨by ((repeat' split) <;> omega), rfl⟩ | (simp only [Is1, Is0]; refine ⟨?_, rfl⟩; (repeat' split) <;> omega)

set_option maxHeartbeats 1000000 in
theorem c_heatOf {X : vX} {s : St} {w : Int} (hw : rg w) : OkI X 0 32 [.int (iI w)] s (Is1 (heatI w) s) := by
  refine Ok.of (r := vm_m32) (ls := [some (.int (iI w))]) rfl (Nat.le_of_ble_eq_true rfl) rfl (fun d hd => ?_)
  refine Gs_iload_n p32_0 rfl rfl ?_
  by_cases h0 : w = 0
  · subst h0
    refine Gs_tabIn (off := 31) (tgt := 32) p32_1 hw (by omega) (by omega) rfl (by rfl) ?_
    refine Gs_iconst p32_32 ?_
    exact Gs_iret p32_33 rfl ⟨_, rfl, rfl, rfl⟩
  by_cases h1 : w = 1
  · subst h1
    refine Gs_tabIn (off := 33) (tgt := 34) p32_1 hw (by omega) (by omega) rfl (by rfl) ?_
    refine Gs_bipush p32_34 (by decide) ?_
    exact Gs_iret p32_36 rfl ⟨_, rfl, rfl, rfl⟩
  by_cases h2 : w = 2
  · subst h2
    refine Gs_tabIn (off := 36) (tgt := 37) p32_1 hw (by omega) (by omega) rfl (by rfl) ?_
    refine Gs_bipush p32_37 (by decide) ?_
    exact Gs_iret p32_39 rfl ⟨_, rfl, rfl, rfl⟩
  by_cases h3 : w = 3
  · subst h3
    refine Gs_tabIn (off := 39) (tgt := 40) p32_1 hw (by omega) (by omega) rfl (by rfl) ?_
    refine Gs_iconst p32_40 ?_
    exact Gs_iret p32_41 rfl ⟨_, rfl, rfl, rfl⟩
  refine Gs_tabOut (tgt := 42) p32_1 hw (by omega) (by rfl) ?_
  refine Gs_iconst p32_42 ?_
  refine Gs_iret p32_43 rfl ⟨_, rfl, ?_, rfl⟩
  unfold heatI
  rw [if_neg h0, if_neg h1, if_neg h2, if_neg h3]
theorem heatI_b (w : Int) : -2 ≤ heatI w ∧ heatI w ≤ 6 := by unfold heatI; (repeat' split) <;> omega
set_option maxHeartbeats 1000000 in
set_option maxRecDepth 4000 in
theorem c_fed {X : vX} {s : St} {hot w : Int} (h0 : -100 ≤ hot) (h1 : hot ≤ 1000000) (hw : rg w) : OkI X 1 30 [.int (iI hot), .int (iI w)] s (Is1 (fedI hot w) s) := by
  refine Ok.of (r := vm_m30) (ls := [some (.int (iI hot)), some (.int (iI w))]) rfl (Nat.le_of_ble_eq_true rfl) rfl (fun d hd => ?_)
  have hb := heatI_b w
  have hm : rg (mn 20 (hot + heatI w)) := by unfold mn; split <;> exact ⟨by omega, by omega⟩
  refine Gs_iconst p30_0 ?_
  refine Gs_bipush p30_1 (by decide) ?_
  refine Gs_iload_n p30_3 rfl rfl ?_
  refine Gs_iload_n p30_4 rfl rfl ?_
  refine Gs_callS1I p30_5 (by rfl) (Nat.le_of_ble_eq_true rfl) (by decide) (c_heatOf hw) (by omega) ?_
  refine Gs_iadd p30_8 ?_
  refine Gs_callS2I p30_9 (by rfl) (Nat.le_of_ble_eq_true rfl) (by decide) (c_min ⟨by omega, by omega⟩ ⟨by omega, by omega⟩) (by omega) ?_
  refine Gs_callS2I p30_12 (by rfl) (Nat.le_of_ble_eq_true rfl) (by decide) (c_max ⟨by omega, by omega⟩ hm) (by omega) ?_
  refine Gs_iret p30_15 rfl ⟨_, rfl, ?_⟩
  first | exact ⟨rfl, rfl⟩ | exact ⟨by ((repeat' split) <;> omega), rfl⟩ | (simp only [Is1, Is0]; refine ⟨?_, rfl⟩; (repeat' split) <;> omega)

set_option maxHeartbeats 1000000 in
set_option maxRecDepth 4000 in
theorem c_burnt {X : vX} {s : St} {hot last rain : Int} (h0 : -100 ≤ hot) (h1 : hot ≤ 1000000) (hr0 : 0 ≤ rain) (hr1 : rain ≤ 1000) (hl : rg last) : OkI X 1 31 [.int (iI hot), .int (iI last), .int (iI rain)] s (Is1 (burntI hot last rain) s) := by
  refine Ok.of (r := vm_m31) (ls := [some (.int (iI hot)), some (.int (iI last)), some (.int (iI rain)), none]) rfl (Nat.le_of_ble_eq_true rfl) rfl (fun d hd => ?_)
  refine Gs_iconst p31_0 ?_
  refine Gs_ist3 p31_1 (by first | rfl | assumption) ?_
  refine Gs_iload_n p31_2 rfl rfl ?_
  refine Gs_iconst p31_3 ?_
  refine Gs_icmp_eq (tgt := 11) p31_4 (by rfl) (by first | assumption | exact ⟨by omega, by omega⟩ | (split <;> exact ⟨by omega, by omega⟩)) (by first | assumption | exact ⟨by omega, by omega⟩ | (split <;> exact ⟨by omega, by omega⟩)) (fun h4 => ?_) (fun h4 => ?_)
  · refine Gs_iload_n p31_11 rfl rfl ?_
    refine Gs_iconst p31_12 ?_
    refine Gs_icmp_ne (tgt := 19) p31_13 (by rfl) (by first | assumption | exact ⟨by omega, by omega⟩ | (split <;> exact ⟨by omega, by omega⟩)) (by first | assumption | exact ⟨by omega, by omega⟩ | (split <;> exact ⟨by omega, by omega⟩)) (fun h13 => ?_) (fun h13 => ?_)
    · refine Gs_iconst p31_19 ?_
      refine Gs_iload_n p31_20 rfl rfl ?_
      refine Gs_iload_n p31_21 rfl rfl ?_
      refine Gs_isub p31_22 ?_
      refine Gs_callS2I p31_23 (by rfl) (Nat.le_of_ble_eq_true rfl) (by decide) (c_max ⟨by omega, by omega⟩ ⟨by omega, by omega⟩) (by omega) ?_
      refine Gs_iret p31_26 rfl ⟨_, rfl, ?_⟩
      refine ⟨?_, rfl⟩
      unfold burntI lossI
      congr 1
      (repeat' split) <;> omega
    · refine Gs_iinc3 (b53 := none) p31_16 (by first | rfl | assumption) ?_
      refine Gs_iconst p31_19 ?_
      refine Gs_iload_n p31_20 rfl rfl ?_
      refine Gs_iload_n p31_21 rfl rfl ?_
      refine Gs_isub p31_22 ?_
      refine Gs_callS2I p31_23 (by rfl) (Nat.le_of_ble_eq_true rfl) (by decide) (c_max ⟨by omega, by omega⟩ ⟨by omega, by omega⟩) (by omega) ?_
      refine Gs_iret p31_26 rfl ⟨_, rfl, ?_⟩
      refine ⟨?_, rfl⟩
      unfold burntI lossI
      congr 1
      (repeat' split) <;> omega
  · refine Gs_iload_n p31_7 rfl rfl ?_
    refine Gs_iload_n p31_8 rfl rfl ?_
    refine Gs_iadd p31_9 ?_
    refine Gs_ist3 p31_10 (by first | rfl | assumption) ?_
    refine Gs_iload_n p31_11 rfl rfl ?_
    refine Gs_iconst p31_12 ?_
    refine Gs_icmp_ne (tgt := 19) p31_13 (by rfl) (by first | assumption | exact ⟨by omega, by omega⟩ | (split <;> exact ⟨by omega, by omega⟩)) (by first | assumption | exact ⟨by omega, by omega⟩ | (split <;> exact ⟨by omega, by omega⟩)) (fun h13 => ?_) (fun h13 => ?_)
    · refine Gs_iconst p31_19 ?_
      refine Gs_iload_n p31_20 rfl rfl ?_
      refine Gs_iload_n p31_21 rfl rfl ?_
      refine Gs_isub p31_22 ?_
      refine Gs_callS2I p31_23 (by rfl) (Nat.le_of_ble_eq_true rfl) (by decide) (c_max ⟨by omega, by omega⟩ ⟨by omega, by omega⟩) (by omega) ?_
      refine Gs_iret p31_26 rfl ⟨_, rfl, ?_⟩
      refine ⟨?_, rfl⟩
      unfold burntI lossI
      congr 1
      (repeat' split) <;> omega
    · refine Gs_iinc3 (b53 := none) p31_16 (by first | rfl | assumption) ?_
      refine Gs_iconst p31_19 ?_
      refine Gs_iload_n p31_20 rfl rfl ?_
      refine Gs_iload_n p31_21 rfl rfl ?_
      refine Gs_isub p31_22 ?_
      refine Gs_callS2I p31_23 (by rfl) (Nat.le_of_ble_eq_true rfl) (by decide) (c_max ⟨by omega, by omega⟩ ⟨by omega, by omega⟩) (by omega) ?_
      refine Gs_iret p31_26 rfl ⟨_, rfl, ?_⟩
      refine ⟨?_, rfl⟩
      unfold burntI lossI
      congr 1
      (repeat' split) <;> omega

set_option maxHeartbeats 1000000 in
set_option maxRecDepth 4000 in
theorem c_size {X : vX} {s : St} {r n : Nat} (hr : isRow r n) : OkI X 0 55 [.ref r] s (Is1 (vF s r 1) s) := by
  refine Ok.of (r := vm_m55) (ls := [some (.ref r)]) rfl (Nat.le_of_ble_eq_true rfl) rfl (fun d hd => ?_)
  obtain ⟨hy, ha, hn⟩ := hr
  refine Gs_aload_n p55_0 rfl rfl ?_
  refine Gs_getI p55_1 (by first | rfl | assumption) (by rfl) ?_
  refine Gs_iret p55_4 rfl ⟨_, rfl, ?_⟩
  first | exact ⟨rfl, rfl⟩ | exact ⟨by ((repeat' split) <;> omega), rfl⟩ | (simp only [Is1, Is0]; refine ⟨?_, rfl⟩; (repeat' split) <;> omega)

set_option maxHeartbeats 1000000 in
set_option maxRecDepth 4000 in
theorem c_isFull {X : vX} {s : St} {r n : Nat} (hr : isRow r n) (hz : rg (vF s r 1)) : OkI X 0 56 [.ref r] s (Is1 (if (n : Int) ≤ vF s r 1 then 1 else 0) s) := by
  refine Ok.of (r := vm_m56) (ls := [some (.ref r)]) rfl (Nat.le_of_ble_eq_true rfl) rfl (fun d hd => ?_)
  obtain ⟨hy, ha, hn⟩ := hr
  refine Gs_aload_n p56_0 rfl rfl ?_
  refine Gs_getI p56_1 (by first | rfl | assumption) (by rfl) ?_
  refine Gs_aload_n p56_4 rfl rfl ?_
  refine Gs_getR p56_5 (by first | rfl | assumption) (by rfl) ?_
  refine Gs_alenI p56_8 (by first | rfl | assumption) ?_
  refine Gs_icmp_lt (tgt := 16) p56_9 (by rfl) (by first | assumption | exact ⟨by omega, by omega⟩ | (split <;> exact ⟨by omega, by omega⟩)) (by first | assumption | exact ⟨by omega, by omega⟩ | (split <;> exact ⟨by omega, by omega⟩)) (fun h9 => ?_) (fun h9 => ?_)
  · refine Gs_iconst p56_16 ?_
    refine Gs_zret p56_17 rfl (by first | exact Or.inl rfl | exact Or.inr rfl | (split <;> first | exact Or.inl rfl | exact Or.inr rfl)) ⟨_, rfl, ?_⟩
    first | exact ⟨rfl, rfl⟩ | exact ⟨by ((repeat' split) <;> omega), rfl⟩ | (simp only [Is1, Is0]; refine ⟨?_, rfl⟩; (repeat' split) <;> omega)
  · refine Gs_iconst p56_12 ?_
    refine Gs_goto (tgt := 17) p56_13 (by rfl) ?_
    refine Gs_zret p56_17 rfl (by first | exact Or.inl rfl | exact Or.inr rfl | (split <;> first | exact Or.inl rfl | exact Or.inr rfl)) ⟨_, rfl, ?_⟩
    first | exact ⟨rfl, rfl⟩ | exact ⟨by ((repeat' split) <;> omega), rfl⟩ | (simp only [Is1, Is0]; refine ⟨?_, rfl⟩; (repeat' split) <;> omega)

set_option maxHeartbeats 1000000 in
set_option maxRecDepth 4000 in
theorem c_clear {X : vX} {s : St} {r n : Nat} (hr : isRow r n) : OkV X 0 57 [.ref r] s (Is0 (sF s r 1 0)) := by
  refine Ok.of (r := vm_m57) (ls := [some (.ref r)]) rfl (Nat.le_of_ble_eq_true rfl) rfl (fun d hd => ?_)
  obtain ⟨hy, ha, hn⟩ := hr
  refine Gs_aload_n p57_0 rfl rfl ?_
  refine Gs_iconst p57_1 ?_
  refine Gs_putI p57_2 (by first | rfl | assumption) (by rfl) (by rfl) (by rfl) ?_
  refine Gs_vret p57_5 rfl ⟨rfl, ?_⟩
  rfl

set_option maxHeartbeats 1000000 in
set_option maxRecDepth 4000 in
theorem c_add {X : vX} {s : St} {r n : Nat} (hr : isRow r n) {v : Int} (h0 : 0 ≤ vF s r 1) (h1 : vF s r 1 < n) : OkV X 0 58 [.ref r, .int (iI v)] s (Is0 (sF (sA s (r + 1) (vF s r 1) v) r 1 (vF s r 1 + 1))) := by
  refine Ok.of (r := vm_m58) (ls := [some (.ref r), some (.int (iI v))]) rfl (Nat.le_of_ble_eq_true rfl) rfl (fun d hd => ?_)
  obtain ⟨hy, ha, hn⟩ := hr
  refine Gs_aload_n p58_0 rfl rfl ?_
  refine Gs_getI p58_1 (by first | rfl | assumption) (by rfl) ?_
  refine Gs_if_lt (tgt := 39) p58_4 (by rfl) (by first | assumption | exact ⟨by omega, by omega⟩ | (split <;> exact ⟨by omega, by omega⟩)) (fun h4 => absurd ‹_› (by first | omega | assumption)) (fun h4 => ?_)
  refine Gs_aload_n p58_7 rfl rfl ?_
  refine Gs_getI p58_8 (by first | rfl | assumption) (by rfl) ?_
  refine Gs_aload_n p58_11 rfl rfl ?_
  refine Gs_getR p58_12 (by first | rfl | assumption) (by rfl) ?_
  refine Gs_alenI p58_15 (by first | rfl | assumption) ?_
  refine Gs_icmp_ge (tgt := 39) p58_16 (by rfl) (by first | assumption | exact ⟨by omega, by omega⟩ | (split <;> exact ⟨by omega, by omega⟩)) (by first | assumption | exact ⟨by omega, by omega⟩ | (split <;> exact ⟨by omega, by omega⟩)) (fun h16 => absurd ‹_› (by first | omega | assumption)) (fun h16 => ?_)
  refine Gs_aload_n p58_19 rfl rfl ?_
  refine Gs_getR p58_20 (by first | rfl | assumption) (by rfl) ?_
  refine Gs_aload_n p58_23 rfl rfl ?_
  refine Gs_getI p58_24 (by first | rfl | assumption) (by rfl) ?_
  refine Gs_iload_n p58_27 rfl rfl ?_
  refine Gs_iast p58_28 (by first | rfl | assumption) (by omega) (by omega) (by omega) ?_
  refine Gs_aload_n p58_29 rfl rfl ?_
  refine Gs_dup p58_30 rfl ?_
  refine Gs_getI p58_31 (by first | rfl | assumption) (by rfl) ?_
  refine Gs_iconst p58_34 ?_
  refine Gs_iadd p58_35 ?_
  refine Gs_putI p58_36 (by first | rfl | assumption) (by rfl) (by rfl) (by rfl) ?_
  refine Gs_vret p58_39 rfl ⟨rfl, ?_⟩
  rfl

set_option maxHeartbeats 1000000 in
set_option maxRecDepth 4000 in
theorem c_get {X : vX} {s : St} {r n : Nat} (hr : isRow r n) {p : Int} (hp : rg p) (h0 : 0 ≤ vF s r 1) (h1 : vF s r 1 ≤ n) : OkI X 0 59 [.ref r, .int (iI p)] s (Is1 (if 0 ≤ p ∧ p < vF s r 1 then vA s (r + 1) p else -4) s) := by
  refine Ok.of (r := vm_m59) (ls := [some (.ref r), some (.int (iI p))]) rfl (Nat.le_of_ble_eq_true rfl) rfl (fun d hd => ?_)
  obtain ⟨hy, ha, hn⟩ := hr
  refine Gs_iload_n p59_0 rfl rfl ?_
  refine Gs_if_lt (tgt := 30) p59_1 (by rfl) (by first | assumption | exact ⟨by omega, by omega⟩ | (split <;> exact ⟨by omega, by omega⟩)) (fun h1 => ?_) (fun h1 => ?_)
  · refine Gs_bipush p59_30 (by decide) ?_
    refine Gs_iret p59_32 rfl ⟨_, rfl, ?_⟩
    first | exact ⟨rfl, rfl⟩ | exact ⟨by ((repeat' split) <;> omega), rfl⟩ | (simp only [Is1, Is0]; refine ⟨?_, rfl⟩; (repeat' split) <;> omega)
  · refine Gs_iload_n p59_4 rfl rfl ?_
    refine Gs_aload_n p59_5 rfl rfl ?_
    refine Gs_getI p59_6 (by first | rfl | assumption) (by rfl) ?_
    refine Gs_icmp_ge (tgt := 30) p59_9 (by rfl) (by first | assumption | exact ⟨by omega, by omega⟩ | (split <;> exact ⟨by omega, by omega⟩)) (by first | assumption | exact ⟨by omega, by omega⟩ | (split <;> exact ⟨by omega, by omega⟩)) (fun h9 => ?_) (fun h9 => ?_)
    · refine Gs_bipush p59_30 (by decide) ?_
      refine Gs_iret p59_32 rfl ⟨_, rfl, ?_⟩
      first | exact ⟨rfl, rfl⟩ | exact ⟨by ((repeat' split) <;> omega), rfl⟩ | (simp only [Is1, Is0]; refine ⟨?_, rfl⟩; (repeat' split) <;> omega)
    · refine Gs_iload_n p59_12 rfl rfl ?_
      refine Gs_aload_n p59_13 rfl rfl ?_
      refine Gs_getR p59_14 (by first | rfl | assumption) (by rfl) ?_
      refine Gs_alenI p59_17 (by first | rfl | assumption) ?_
      refine Gs_icmp_ge (tgt := 30) p59_18 (by rfl) (by first | assumption | exact ⟨by omega, by omega⟩ | (split <;> exact ⟨by omega, by omega⟩)) (by first | assumption | exact ⟨by omega, by omega⟩ | (split <;> exact ⟨by omega, by omega⟩)) (fun h18 => ?_) (fun h18 => ?_)
      · refine Gs_bipush p59_30 (by decide) ?_
        refine Gs_iret p59_32 rfl ⟨_, rfl, ?_⟩
        first | exact ⟨rfl, rfl⟩ | exact ⟨by ((repeat' split) <;> omega), rfl⟩ | (simp only [Is1, Is0]; refine ⟨?_, rfl⟩; (repeat' split) <;> omega)
      · refine Gs_aload_n p59_21 rfl rfl ?_
        refine Gs_getR p59_22 (by first | rfl | assumption) (by rfl) ?_
        refine Gs_iload_n p59_25 rfl rfl ?_
        refine Gs_iald p59_26 (by first | rfl | assumption) (by omega) (by omega) (by omega) ?_
        refine Gs_goto (tgt := 32) p59_27 (by rfl) ?_
        refine Gs_iret p59_32 rfl ⟨_, rfl, ?_⟩
        first | exact ⟨rfl, rfl⟩ | exact ⟨by ((repeat' split) <;> omega), rfl⟩ | (simp only [Is1, Is0]; refine ⟨?_, rfl⟩; (repeat' split) <;> omega)

set_option maxHeartbeats 1000000 in
set_option maxRecDepth 4000 in
theorem c_set {X : vX} {s : St} {r n : Nat} (hr : isRow r n) {p v : Int} (hp : rg p) (h0 : 0 ≤ vF s r 1) (h1 : vF s r 1 ≤ n) : OkV X 0 60 [.ref r, .int (iI p), .int (iI v)] s (Is0 (if 0 ≤ p ∧ p < vF s r 1 then sA s (r + 1) p v else s)) := by
  refine Ok.of (r := vm_m60) (ls := [some (.ref r), some (.int (iI p)), some (.int (iI v))]) rfl (Nat.le_of_ble_eq_true rfl) rfl (fun d hd => ?_)
  obtain ⟨hy, ha, hn⟩ := hr
  refine Gs_iload_n p60_0 rfl rfl ?_
  refine Gs_if_lt (tgt := 28) p60_1 (by rfl) (by first | assumption | exact ⟨by omega, by omega⟩ | (split <;> exact ⟨by omega, by omega⟩)) (fun h1 => ?_) (fun h1 => ?_)
  · refine Gs_vret p60_28 rfl ⟨rfl, ?_⟩
    first | (rw [Is0, if_pos (by omega)]; done) | (rw [Is0, if_neg (by omega)]; done)
  · refine Gs_iload_n p60_4 rfl rfl ?_
    refine Gs_aload_n p60_5 rfl rfl ?_
    refine Gs_getI p60_6 (by first | rfl | assumption) (by rfl) ?_
    refine Gs_icmp_ge (tgt := 28) p60_9 (by rfl) (by first | assumption | exact ⟨by omega, by omega⟩ | (split <;> exact ⟨by omega, by omega⟩)) (by first | assumption | exact ⟨by omega, by omega⟩ | (split <;> exact ⟨by omega, by omega⟩)) (fun h9 => ?_) (fun h9 => ?_)
    · refine Gs_vret p60_28 rfl ⟨rfl, ?_⟩
      first | (rw [Is0, if_pos (by omega)]; done) | (rw [Is0, if_neg (by omega)]; done)
    · refine Gs_iload_n p60_12 rfl rfl ?_
      refine Gs_aload_n p60_13 rfl rfl ?_
      refine Gs_getR p60_14 (by first | rfl | assumption) (by rfl) ?_
      refine Gs_alenI p60_17 (by first | rfl | assumption) ?_
      refine Gs_icmp_ge (tgt := 28) p60_18 (by rfl) (by first | assumption | exact ⟨by omega, by omega⟩ | (split <;> exact ⟨by omega, by omega⟩)) (by first | assumption | exact ⟨by omega, by omega⟩ | (split <;> exact ⟨by omega, by omega⟩)) (fun h18 => ?_) (fun h18 => ?_)
      · refine Gs_vret p60_28 rfl ⟨rfl, ?_⟩
        first | (rw [Is0, if_pos (by omega)]; done) | (rw [Is0, if_neg (by omega)]; done)
      · refine Gs_aload_n p60_21 rfl rfl ?_
        refine Gs_getR p60_22 (by first | rfl | assumption) (by rfl) ?_
        refine Gs_iload_n p60_25 rfl rfl ?_
        refine Gs_iload_n p60_26 rfl rfl ?_
        refine Gs_iast p60_27 (by first | rfl | assumption) (by omega) (by omega) (by omega) ?_
        refine Gs_vret p60_28 rfl ⟨rfl, ?_⟩
        first | (rw [Is0, if_pos (by omega)]; done) | (rw [Is0, if_neg (by omega)]; done)

theorem l_fill {X : vX} {s : St} {r n d : Nat} {v : Int} {Q : Option Value → St → Prop} (hr : isRow r n) (hQ : Q none (cF s (r + 1) n v)) (i : Int) (hi : 0 ≤ i) (hin : i ≤ n) : Gs X d 61 11 [some (.ref r), some (.int (iI v)), some (.int (iI i))] [] (cF s (r + 1) i v) Q := by
  have hr' := hr
  obtain ⟨hy, ha, hn⟩ := hr'
  refine Gs_iload_n p61_11 rfl rfl ?_
  refine Gs_aload_n p61_12 rfl rfl ?_
  refine Gs_getR p61_13 (by first | rfl | assumption) (by rfl) ?_
  refine Gs_alenI p61_16 (by first | rfl | assumption) ?_
  refine Gs_icmp_ge (tgt := 33) p61_17 (by rfl) (by first | assumption | exact ⟨by omega, by omega⟩ | (split <;> exact ⟨by omega, by omega⟩)) (by first | assumption | exact ⟨by omega, by omega⟩ | (split <;> exact ⟨by omega, by omega⟩)) (fun h17 => ?_) (fun h17 => ?_)
  · refine Gs_vret p61_33 rfl ?_
    rw [show i = (n : Int) by omega]
    exact hQ
  · refine Gs_aload_n p61_20 rfl rfl ?_
    refine Gs_getR p61_21 (by first | rfl | assumption) (by rfl) ?_
    refine Gs_iload_n p61_24 rfl rfl ?_
    refine Gs_iload_n p61_25 rfl rfl ?_
    refine Gs_iast p61_26 (by first | rfl | assumption) (by omega) (by omega) (by omega) ?_
    refine Gs_iinc2 (b52 := none) p61_27 (by first | rfl | assumption) ?_
    refine Gs_goto (tgt := 11) p61_30 (by rfl) ?_
    rw [cF_s s (r + 1) hi]
    exact l_fill hr hQ (i + 1) (by omega) (by omega)
termination_by ((n : Int) - i).toNat
decreasing_by omega
set_option maxHeartbeats 1000000 in
set_option maxRecDepth 4000 in
theorem c_fill {X : vX} {s : St} {r n : Nat} (hr : isRow r n) {v : Int} : OkV X 0 61 [.ref r, .int (iI v)] s (Is0 (cF (sF s r 1 n) (r + 1) n v)) := by
  refine Ok.of (r := vm_m61) (ls := [some (.ref r), some (.int (iI v)), none]) rfl (Nat.le_of_ble_eq_true rfl) rfl (fun d hd => ?_)
  have hr' := hr
  obtain ⟨hy, ha, hn⟩ := hr'
  refine Gs_aload_n p61_0 rfl rfl ?_
  refine Gs_aload_n p61_1 rfl rfl ?_
  refine Gs_getR p61_2 (by first | rfl | assumption) (by rfl) ?_
  refine Gs_alenI p61_5 (by first | rfl | assumption) ?_
  refine Gs_putI p61_6 (by first | rfl | assumption) (by rfl) (by rfl) (by rfl) ?_
  refine Gs_iconst p61_9 ?_
  refine Gs_ist2 p61_10 (by first | rfl | assumption) ?_
  have L := l_fill (X := X) (s := sF s r 1 n) (d := d) (v := v) (Q := fun v' t => v' = none ∧ Is0 (cF (sF s r 1 n) (r + 1) n v) t) hr ⟨rfl, rfl⟩ 0 (by omega) (by omega)
  rw [cF_0] at L
  exact L

theorem cC_0 (s : St) (a o : Nat) : cC s a o 0 = s := by
  refine Prod.ext ?_ rfl
  funext i z
  show (if _ then _ else _) = _
  rw [if_neg (by omega)]
theorem cC_s {s : St} {r o : Nat} {i : Int} (hro : r + 1 ≠ o + 1) (hi : 0 ≤ i) : sF (sA (sF (cC s (r + 1) (o + 1) i) r 1 i) (r + 1) i (vA s (o + 1) i)) r 1 (i + 1) = sF (cC s (r + 1) (o + 1) (i + 1)) r 1 (i + 1) := by
  refine Prod.ext ?_ ?_
  · funext i' z
    show (if i' = r + 1 ∧ z = i then s.1 (o + 1) i else if i' = r + 1 ∧ 0 ≤ z ∧ z < i then s.1 (o + 1) z else s.1 i' z) = if i' = r + 1 ∧ 0 ≤ z ∧ z < i + 1 then s.1 (o + 1) z else s.1 i' z
    by_cases h1 : i' = r + 1 ∧ 0 ≤ z ∧ z < i + 1
    · rw [if_pos h1]
      by_cases h2 : i' = r + 1 ∧ z = i
      · rw [if_pos h2, h2.2]
      · rw [if_neg h2, if_pos (by omega)]
    · rw [if_neg h1, if_neg (by omega), if_neg (by omega)]
  · funext i' k
    show (if i' = r ∧ k = 1 then i + 1 else if i' = r ∧ k = 1 then i else s.2 i' k) = if i' = r ∧ k = 1 then i + 1 else s.2 i' k
    split <;> rfl
theorem l_become {X : vX} {s : St} {r n o m d : Nat} {Q : Option Value → St → Prop} (hr : isRow r n) (ho : isRow o m) (hro : r + 1 ≠ o + 1) (hro2 : r ≠ o + 1 ∧ o ≠ r + 1) (h0 : 0 ≤ vF s o 1) (h1 : vF s o 1 ≤ m) (h2 : vF s o 1 ≤ n) (hd : 2 ≤ d) (hQ : Q none (sCopy s r o)) (i : Int) (hi : 0 ≤ i) (hin : i ≤ vF s o 1) : Gs X d 62 6 [some (.ref r), some (.ref o), some (.int (iI i))] [] (sF (cC s (r + 1) (o + 1) i) r 1 i) Q := by
  have hor : o ≠ r := by omega
  have eO : vF (sF (cC s (r + 1) (o + 1) i) r 1 i) o 1 = vF s o 1 := by rw [vF_sF, if_neg (by omega)]; rfl
  have eS : vF (sF (cC s (r + 1) (o + 1) i) r 1 i) r 1 = i := by rw [vF_sF, if_pos ⟨rfl, rfl⟩]
  have eA : vA (sF (cC s (r + 1) (o + 1) i) r 1 i) (o + 1) i = vA s (o + 1) i := by show (if _ then _ else _) = _; rw [if_neg (by omega)]; rfl
  have hn := hr.2.2
  have hm := ho.2.2
  refine Gs_iload_n p62_6 rfl rfl ?_
  refine Gs_aload_n p62_7 rfl rfl ?_
  refine Gs_callV0I p62_8 (by rfl) (by rfl) ho.1 (Nat.le_of_ble_eq_true rfl) (by decide) (c_size ho) (by omega) ?_
  rw [eO]
  refine Gs_icmp_ge (tgt := 29) p62_11 (by rfl) (by first | assumption | exact ⟨by omega, by omega⟩ | (split <;> exact ⟨by omega, by omega⟩)) (by first | assumption | exact ⟨by omega, by omega⟩ | (split <;> exact ⟨by omega, by omega⟩)) (fun h11 => ?_) (fun h11 => ?_)
  · refine Gs_vret p62_29 rfl ?_
    rw [show i = vF s o 1 by omega]
    exact hQ
  · refine Gs_aload_n p62_14 rfl rfl ?_
    refine Gs_aload_n p62_15 rfl rfl ?_
    refine Gs_iload_n p62_16 rfl rfl ?_
    refine Gs_callV1I p62_17 (by rfl) (by rfl) ho.1 (Nat.le_of_ble_eq_true rfl) (by decide) (c_get ho ⟨by omega, by omega⟩ (by omega) (by omega)) (by omega) ?_
    rw [eO, if_pos (by omega)]
    rw [eA]
    refine Gs_callV1W p62_20 (by rfl) (by rfl) hr.1 (Nat.le_of_ble_eq_true rfl) (by decide) (c_add hr (by rw [eS]; omega) (by rw [eS]; omega)) (by omega) ?_
    rw [eS]
    refine Gs_iinc2 (b52 := none) p62_23 (by first | rfl | assumption) ?_
    refine Gs_goto (tgt := 6) p62_26 (by rfl) ?_
    have e : sF (sA (sF (cC s (r + 1) (o + 1) i) r 1 i) (r + 1) i (vA s (o + 1) i)) r 1 (i + 1) = sF (cC s (r + 1) (o + 1) (i + 1)) r 1 (i + 1) := cC_s hro hi
    rw [e]
    exact l_become hr ho hro hro2 h0 h1 h2 hd hQ (i + 1) (by omega) (by omega)
termination_by (vF s o 1 - i).toNat
decreasing_by omega
set_option maxHeartbeats 1000000 in
set_option maxRecDepth 4000 in
theorem c_become {X : vX} {s : St} {r n o m : Nat} (hr : isRow r n) (ho : isRow o m) (hro : r + 1 ≠ o + 1) (hro2 : r ≠ o + 1 ∧ o ≠ r + 1) (h0 : 0 ≤ vF s o 1) (h1 : vF s o 1 ≤ m) (h2 : vF s o 1 ≤ n) : OkV X 2 62 [.ref r, .ref o] s (Is0 (sCopy s r o)) := by
  refine Ok.of (r := vm_m62) (ls := [some (.ref r), some (.ref o), none]) rfl (Nat.le_of_ble_eq_true rfl) rfl (fun d hd => ?_)
  refine Gs_aload_n p62_0 rfl rfl ?_
  refine Gs_callV0W p62_1 (by rfl) (by rfl) hr.1 (Nat.le_of_ble_eq_true rfl) (by decide) (c_clear hr) (by omega) ?_
  refine Gs_iconst p62_4 ?_
  refine Gs_ist2 p62_5 (by first | rfl | assumption) ?_
  have eO : vF (sF s r 1 0) o 1 = vF s o 1 := by rw [vF_sF, if_neg (by omega)]
  have L := l_become (X := X) (s := s) (d := d) (Q := fun v' t => v' = none ∧ Is0 (sCopy s r o) t) hr ho hro hro2 h0 h1 h2 hd ⟨rfl, rfl⟩ 0 (by omega) (by omega)
  rw [cC_0] at L
  exact L

/-! the same, the row's cell named -/
theorem c_aget {X : vX} {s : St} {r n a : Nat} (hr : isRow r n) (ea : r + 1 = a) {p : Int} (hp : rg p) (h0 : 0 ≤ vF s r 1) (h1 : vF s r 1 ≤ n) : OkI X 0 59 [.ref r, .int (iI p)] s (Is1 (if 0 ≤ p ∧ p < vF s r 1 then vA s a p else -4) s) := by subst ea; exact c_get hr hp h0 h1
theorem c_agot {X : vX} {s : St} {r n a : Nat} (hr : isRow r n) (ea : r + 1 = a) {p : Int} (hp : rg p) (h0 : 0 ≤ vF s r 1) (h1 : vF s r 1 ≤ n) (p0 : 0 ≤ p) (p1 : p < vF s r 1) : OkI X 0 59 [.ref r, .int (iI p)] s (Is1 (vA s a p) s) := by
  have h := c_aget (X := X) hr ea hp h0 h1
  rw [if_pos ⟨p0, p1⟩] at h
  exact h
theorem c_aset {X : vX} {s : St} {r n a : Nat} (hr : isRow r n) (ea : r + 1 = a) {p v : Int} (hp : rg p) (h0 : 0 ≤ vF s r 1) (h1 : vF s r 1 ≤ n) (p0 : 0 ≤ p) (p1 : p < vF s r 1) : OkV X 0 60 [.ref r, .int (iI p), .int (iI v)] s (Is0 (sA s a p v)) := by
  subst ea
  have h := c_set (X := X) (v := v) hr hp h0 h1
  rw [if_pos ⟨p0, p1⟩] at h
  exact h
theorem c_aadd {X : vX} {s : St} {r n a : Nat} (hr : isRow r n) (ea : r + 1 = a) {v : Int} (h0 : 0 ≤ vF s r 1) (h1 : vF s r 1 < n) : OkV X 0 58 [.ref r, .int (iI v)] s (Is0 (sF (sA s a (vF s r 1) v) r 1 (vF s r 1 + 1))) := by subst ea; exact c_add hr h0 h1
theorem c_afill {X : vX} {s : St} {r n a : Nat} (hr : isRow r n) (ea : r + 1 = a) {v : Int} : OkV X 0 61 [.ref r, .int (iI v)] s (Is0 (cF (sF s r 1 n) a n v)) := by subst ea; exact c_fill hr
def sCopyA (s : St) (r a o b : Nat) : St := sF (cC s a b (vF s o 1)) r 1 (vF s o 1)
theorem c_abecome {X : vX} {s : St} {r n o m a b : Nat} (hr : isRow r n) (ho : isRow o m) (ea : r + 1 = a) (eb : o + 1 = b) (hro : a ≠ b) (hro2 : r ≠ b ∧ o ≠ a) (h0 : 0 ≤ vF s o 1) (h1 : vF s o 1 ≤ m) (h2 : vF s o 1 ≤ n) : OkV X 2 62 [.ref r, .ref o] s (Is0 (sCopyA s r a o b)) := by subst ea; subst eb; exact c_become hr ho hro hro2 h0 h1 h2