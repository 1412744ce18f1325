/-! the literal: where it lies; its length() and charAt(j) -/
def vm_tx : String := "t1203;t2194;t4330;t0952;t5149;t9995;r0;r1;r0;r2;c0,9,3,2,1,2;c2,5,1,4,2,0;c0,12,0,0,3,3;"
def vm_byt : List Int32 := vm_txt
def vm_SI (adS adV base : Nat) (U : State) : Prop :=
  vk_R RX10 89 vm_tx adS U ∧ vk_S 1 [87] [vm_byt] (fun _ => adS) (fun _ => adV) (fun q => base ≤ q) U U.heap ∧ va_Z "java/lang/String" "COMPACT_STRINGS" "Z" (.int 1) (fun q => base ≤ q) U U.heap ∧ va_Zq "jdk/internal/util/Preconditions" "SIOOBE_FORMATTER" "Ljava/util/function/BiFunction;" (fun q => base ≤ q) U U.heap
def vm_rmS : Room := { frames := 8, cells := 0, slots := 0, locals := 340 }
def vm_wl : List Cond := .code yJ0_length_8abf5 cJ0_length_8abf5 1 (some .int) :: vm_G
def vm_wc : List Cond := .code yJ0_charAt_5068e cJ0_charAt_5068e 2 (some .char) :: vm_G
theorem vm_c_length (l : Launch) (base adS adV : Nat) : Met l yJ0_length_8abf5 vm_wl vm_rmS (fun a U => a = #[.ref adS] ∧ vm_SI adS adV base U) (fun _ st o t => o = .returned (some (.int (Int32.ofNat vm_txt.length))) ∧ t.heap = st.heap) 0 0 (fun q => base ≤ q) := by
  sorry
theorem vm_c_charAt (l : Launch) (base adS adV : Nat) (j z : Int32) (h0 : ¬ j < 0) (hz : vm_txt[j.toNatClampNeg]? = some z) : Met l yJ0_charAt_5068e vm_wc vm_rmS (fun a U => a = #[.ref adS, .int j] ∧ vm_SI adS adV base U) (fun _ st o t => o = .returned (some (.int z)) ∧ t.heap = st.heap) 0 0 (fun q => base ≤ q) := by
  sorry
