/-! the cells behind the two constructors: kind, length or class, references -/
def ly_T : List (Nat × Nat × List (Option Nat)) := [(0, 9, [some 1, some 3, some 5, some 14, some 17, some 20, some 46, some 54, some 69, some 74, some 79, some 90]), (0, 5, [some 2, none]), (1, 200, []), (0, 5, [some 4, none]), (1, 6, []), (0, 7, [some 6, some 8, some 10, some 12, none]), (0, 5, [some 7, none]), (1, 36, []), (0, 5, [some 9, none]), (1, 8, []), (0, 5, [some 11, none]), (1, 9, []), (0, 5, [some 13, none]), (1, 9, []), (0, 0, [some 5, some 15, none]), (0, 5, [some 16, none]), (1, 32, []), (0, 0, [some 5, some 18, none]), (0, 5, [some 19, none]), (1, 32, []), (0, 6, [some 21, none, none]), (2, 8, [some 22, some 25, some 28, some 31, some 34, some 37, some 40, some 43]), (0, 0, [some 5, some 23, none]), (0, 5, [some 24, none]), (1, 32, []), (0, 0, [some 5, some 26, none]), (0, 5, [some 27, none]), (1, 32, []), (0, 0, [some 5, some 29, none]), (0, 5, [some 30, none]), (1, 32, []), (0, 0, [some 5, some 32, none]), (0, 5, [some 33, none]), (1, 32, []), (0, 0, [some 5, some 35, none]), (0, 5, [some 36, none]), (1, 32, []), (0, 0, [some 5, some 38, none]), (0, 5, [some 39, none]), (1, 32, []), (0, 0, [some 5, some 41, none]), (0, 5, [some 42, none]), (1, 32, []), (0, 0, [some 5, some 44, none]), (0, 5, [some 45, none]), (1, 32, []), (0, 6, [some 47, none, none]), (2, 2, [some 48, some 51]), (0, 0, [some 5, some 49, none]), (0, 5, [some 50, none]), (1, 32, []), (0, 0, [some 5, some 52, none]), (0, 5, [some 53, none]), (1, 32, []), (0, 4, [some 1, some 55, some 57, some 66, none]), (0, 5, [some 56, none]), (1, 6, []), (0, 7, [some 58, some 60, some 62, some 64, none]), (0, 5, [some 59, none]), (1, 36, []), (0, 5, [some 61, none]), (1, 8, []), (0, 5, [some 63, none]), (1, 9, []), (0, 5, [some 65, none]), (1, 9, []), (0, 0, [some 57, some 67, none]), (0, 5, [some 68, none]), (1, 32, []), (0, 2, [some 5, some 70, some 72, none, none]), (0, 5, [some 71, none]), (1, 4, []), (0, 5, [some 73, none]), (1, 6, []), (0, 8, [some 5, some 75, some 77, none, none]), (0, 5, [some 76, none]), (1, 4, []), (0, 5, [some 78, none]), (1, 6, []), (0, 3, [some 5, some 80, some 82, some 84, some 86, some 88]), (0, 5, [some 81, none]), (1, 81, []), (0, 5, [some 83, none]), (1, 81, []), (0, 5, [some 85, none]), (1, 81, []), (0, 5, [some 87, none]), (1, 81, []), (0, 5, [some 89, none]), (1, 81, []), (0, 1, [some 5, some 91, some 93]), (0, 5, [some 92, none]), (1, 21, []), (0, 5, [some 94, none]), (1, 21, []), (0, 10, [some 96, some 97, some 98, some 99, some 100, none, some 101, none, some 102, none, some 103, none, none, none, some 104, some 105, some 106, some 107, some 108, some 109, some 110, some 111, some 112]), (1, 71, []), (1, 71, []), (1, 33, []), (1, 33, []), (1, 264, []), (1, 66, []), (1, 6, []), (1, 200, []), (1, 6, []), (1, 6, []), (1, 4, []), (1, 81, []), (1, 81, []), (1, 81, []), (1, 81, []), (1, 9, []), (1, 9, [])]
def ly_N : Nat := 113
def ly_S : Nat := 2515
def ly (i : Nat) : Nat × Nat × List (Option Nat) := (ly_T[i]?).getD (3, 0, [])
theorem ly_lt {i : Nat} (h : (ly i).1 ≠ 3) : i < 113 := by
  unfold ly at h
  by_cases hi : i < 113
  · exact hi
  · rw [List.getElem?_eq_none (by show ly_T.length ≤ i; have : ly_T.length = 113 := rfl; omega)] at h
    exact absurd rfl h
def iI (z : Int) : Int32 := Int32.ofInt z
def iL (z : Int) : Int64 := Int64.ofInt z
/-- the state: what the int rows hold, what the int fields hold -/
abbrev St : Type := (Nat → Int → Int) × (Nat → Nat → Int)
def vA (s : St) (i : Nat) (z : Int) : Int := s.1 i z
def vF (s : St) (i k : Nat) : Int := s.2 i k
def sA (s : St) (i : Nat) (z v : Int) : St := (fun i' z' => if i' = i ∧ z' = z then v else s.1 i' z', s.2)
def sF (s : St) (i k : Nat) (v : Int) : St := (s.1, fun i' k' => if i' = i ∧ k' = k then v else s.2 i' k')
theorem vA_sA (s : St) (i i' : Nat) (z z' v : Int) : vA (sA s i z v) i' z' = if i' = i ∧ z' = z then v else vA s i' z' := rfl
theorem vA_sF (s : St) (i i' k : Nat) (z' v : Int) : vA (sF s i k v) i' z' = vA s i' z' := rfl
theorem vF_sA (s : St) (i i' k' : Nat) (z v : Int) : vF (sA s i z v) i' k' = vF s i' k' := rfl
theorem vF_sF (s : St) (i i' k k' : Nat) (v : Int) : vF (sF s i k v) i' k' = if i' = i ∧ k' = k then v else vF s i' k' := rfl
def ly_f (s : St) (i : Nat) : Nat → List (Option Nat) → List Value
  | _, [] => []
  | k, some j :: t => .ref j :: ly_f s i (k + 1) t
  | k, none :: t => .int (iI (vF s i k)) :: ly_f s i (k + 1) t
def vc_c (X : Nat × (Nat → Int32)) (s : St) (i : Nat) : vm_E := if i = vm_scr then .inl X else match ly i with
  | (0, ci, fs) => .inr (.inr (ci, ly_f s i 0 fs))
  | (1, n, _) => .inl (n, fun j => iI (vA s i (j : Int)))
  | (2, n, fs) => .inr (.inl (n, fun j => (fs[j]?).getD none))
  | _ => .inr (.inr (100, []))
/-- the world of a state -/
def conc (X : Nat × (Nat → Int32)) (s : St) : vm_W := (113, ly_S, vc_c X s)
theorem ly_ne {i : Nat} (h : i < 113) : ¬ i = vm_scr := by show ¬ i = 1000000; omega
theorem vc_obj {X : Nat × (Nat → Int32)} {s : St} {i ci : Nat} {fs : List (Option Nat)} (h : ly i = (0, ci, fs)) : i < 113 ∧ vc_c X s i = .inr (.inr (ci, ly_f s i 0 fs)) := by
  have hi : i < 113 := ly_lt (by rw [h]; exact Nat.noConfusion)
  refine ⟨hi, ?_⟩
  unfold vc_c
  rw [if_neg (ly_ne hi), h]
  rfl
theorem vc_int {X : Nat × (Nat → Int32)} {s : St} {i n : Nat} {fs : List (Option Nat)} (h : ly i = (1, n, fs)) : i < 113 ∧ vc_c X s i = .inl (n, fun j => iI (vA s i (j : Int))) := by
  have hi : i < 113 := ly_lt (by rw [h]; show (1 : Nat) ≠ 3; decide)
  refine ⟨hi, ?_⟩
  unfold vc_c
  rw [if_neg (ly_ne hi), h]
  rfl
theorem vc_ref {X : Nat × (Nat → Int32)} {s : St} {i n : Nat} {fs : List (Option Nat)} (h : ly i = (2, n, fs)) : i < 113 ∧ vc_c X s i = .inr (.inl (n, fun j => (fs[j]?).getD none)) := by
  have hi : i < 113 := ly_lt (by rw [h]; show (2 : Nat) ≠ 3; decide)
  refine ⟨hi, ?_⟩
  unfold vc_c
  rw [if_neg (ly_ne hi), h]
  rfl
theorem ly_f_ne {s : St} {i j b : Nat} {v : Int} (h : j ≠ i) : ∀ (fs : List (Option Nat)) (k : Nat), ly_f (sF s i b v) j k fs = ly_f s j k fs := by
  intro fs
  induction fs with
  | nil => intro k; rfl
  | cons a t ih =>
    intro k
    cases a with
    | some x => show _ :: _ = _ :: _; rw [ih]
    | none =>
      show Value.int (iI (vF (sF s i b v) j k)) :: _ = Value.int (iI (vF s j k)) :: _
      rw [ih, vF_sF, if_neg (fun z => h z.1)]
theorem ly_f_sA {s : St} {i j : Nat} {z v : Int} : ∀ (fs : List (Option Nat)) (k : Nat), ly_f (sA s i z v) j k fs = ly_f s j k fs := by
  intro fs
  induction fs with
  | nil => intro k; rfl
  | cons a t ih =>
    intro k
    cases a with
    | some x => show _ :: _ = _ :: _; rw [ih]
    | none =>
      show Value.int (iI (vF (sA s i z v) j k)) :: _ = Value.int (iI (vF s j k)) :: _
      rw [ih, vF_sA]
theorem ly_f_set {s : St} {i : Nat} {v : Int} : ∀ (fs : List (Option Nat)) (k b : Nat), fs[b]? = some none → ly_f (sF s i (k + b) v) i k fs = (ly_f s i k fs).set b (.int (iI v)) := by
  intro fs
  induction fs with
  | nil => intro k b h; cases h
  | cons a t ih =>
    intro k b h
    cases b with
    | zero =>
      cases h
      have e : ∀ (t : List (Option Nat)) (k' : Nat), k + 0 < k' → ly_f (sF s i (k + 0) v) i k' t = ly_f s i k' t := by
        intro t
        induction t with
        | nil => intro k' _; rfl
        | cons a t ih =>
          intro k' hk
          cases a with
          | some x => show _ :: _ = _ :: _; rw [ih _ (by omega)]
          | none =>
            show Value.int (iI (vF (sF s i (k + 0) v) i k')) :: _ = Value.int (iI (vF s i k')) :: _
            rw [ih _ (by omega), vF_sF, if_neg (by omega)]
      show Value.int (iI (vF (sF s i (k + 0) v) i k)) :: ly_f (sF s i (k + 0) v) i (k + 1) t = Value.int (iI v) :: ly_f s i (k + 1) t
      rw [e t (k + 1) (by omega), vF_sF, if_pos ⟨rfl, rfl⟩]
    | succ b =>
      have h : t[b]? = some none := h
      have e := ih (k + 1) b h
      rw [show k + 1 + b = k + (b + 1) by omega] at e
      cases a with
      | some x => show _ :: _ = _ :: _; rw [e]
      | none =>
        show Value.int (iI (vF (sF s i (k + (b + 1)) v) i k)) :: _ = Value.int (iI (vF s i k)) :: _
        rw [e, vF_sF, if_neg (by omega)]
theorem ly_f_len {s : St} {i : Nat} : ∀ (fs : List (Option Nat)) (k : Nat), (ly_f s i k fs).length = fs.length := by
  intro fs
  induction fs with
  | nil => intro k; rfl
  | cons a t ih => intro k; cases a <;> (show _ + 1 = _ + 1; rw [ih])
theorem vc_putf {X : Nat × (Nat → Int32)} {s : St} {i ci b : Nat} {v : Int} {fs : List (Option Nat)} (h : ly i = (0, ci, fs)) (hb : fs[b]? = some none) : vm_up (vc_c X s) i (.inr (.inr (ci, (ly_f s i 0 fs).set b (.int (iI v))))) = vc_c X (sF s i b v) := by
  funext j
  unfold vm_up
  by_cases hj : j = i
  · rw [if_pos hj, hj, (vc_obj (X := X) (s := sF s i b v) h).2]
    have := ly_f_set (s := s) (i := i) (v := v) fs 0 b hb
    rw [Nat.zero_add] at this
    rw [this]
  · rw [if_neg hj]
    unfold vc_c
    by_cases hs : j = vm_scr
    · rw [if_pos hs, if_pos hs]
    · rw [if_neg hs, if_neg hs]
      split
      · rw [ly_f_ne hj]
      · rfl
      · rfl
      · rfl
theorem vc_asta {X : Nat × (Nat → Int32)} {s : St} {i n : Nat} {z v : Int} {fs : List (Option Nat)} (h : ly i = (1, n, fs)) (hz : 0 ≤ z) : vm_up (vc_c X s) i (.inl (n, upd (fun j => iI (vA s i (j : Int))) z.toNat (iI v))) = vc_c X (sA s i z v) := by
  funext j
  unfold vm_up
  by_cases hj : j = i
  · rw [if_pos hj, hj, (vc_int (X := X) (s := sA s i z v) h).2]
    congr 2
    funext q
    unfold upd
    by_cases hq : q = z.toNat
    · rw [if_pos hq, vA_sA, if_pos ⟨rfl, by omega⟩]
    · rw [if_neg hq, vA_sA, if_neg (by omega)]
  · rw [if_neg hj]
    unfold vc_c
    by_cases hs : j = vm_scr
    · rw [if_pos hs, if_pos hs]
    · rw [if_neg hs, if_neg hs]
      split
      · rw [ly_f_sA]
      · congr 2
        funext q
        rw [vA_sA, if_neg (fun z => hj z.1)]
      · rfl
      · rfl
/-! numbers -/
def rg (z : Int) : Prop := -2147483648 ≤ z ∧ z < 2147483648
def rL (z : Int) : Prop := -9223372036854775808 ≤ z ∧ z < 9223372036854775808
theorem iI_t {z : Int} (h : rg z) : (iI z).toInt = z := by
  unfold iI
  rw [Int32.toInt_ofInt]
  obtain ⟨h1, h2⟩ := h
  exact Int.bmod_eq_of_le (by simpa using h1) (by simpa using h2)
theorem iL_t {z : Int} (h : rL z) : (iL z).toInt = z := by
  unfold iL
  rw [Int64.toInt_ofInt]
  obtain ⟨h1, h2⟩ := h
  exact Int.bmod_eq_of_le (by simpa using h1) (by simpa using h2)
theorem iI_of (x : Int32) : iI x.toInt = x := Int32.ofInt_toInt x
theorem rg_of (x : Int32) : rg x.toInt := ⟨Int32.le_toInt x, Int32.toInt_lt x⟩
theorem iI_add (a b : Int) : iI a + iI b = iI (a + b) := (Int32.ofInt_add a b).symm
theorem iI_mul (a b : Int) : iI a * iI b = iI (a * b) := (Int32.ofInt_mul a b).symm
theorem iI_sub (a b : Int) : iI a - iI b = iI (a - b) := (Int32.ofInt_sub a b).symm
theorem iL_add (a b : Int) : iL a + iL b = iL (a + b) := (Int64.ofInt_add a b).symm
theorem iL_mul (a b : Int) : iL a * iL b = iL (a * b) := (Int64.ofInt_mul a b).symm
theorem iL_sub (a b : Int) : iL a - iL b = iL (a - b) := (Int64.ofInt_sub a b).symm
theorem iI_lt {a b : Int} (ha : rg a) (hb : rg b) : (iI a < iI b) ↔ a < b := by rw [Int32.lt_iff_toInt_lt, iI_t ha, iI_t hb]
theorem iI_le {a b : Int} (ha : rg a) (hb : rg b) : (iI a ≤ iI b) ↔ a ≤ b := by rw [Int32.le_iff_toInt_le, iI_t ha, iI_t hb]
theorem iI_eq {a b : Int} (ha : rg a) (hb : rg b) : (iI a = iI b) ↔ a = b := ⟨fun h => by rw [← iI_t ha, ← iI_t hb, h], fun h => by rw [h]⟩
theorem iL_lt {a b : Int} (ha : rL a) (hb : rL b) : (iL a < iL b) ↔ a < b := by rw [Int64.lt_iff_toInt_lt, iL_t ha, iL_t hb]
theorem iL_eq {a b : Int} (ha : rL a) (hb : rL b) : (iL a = iL b) ↔ a = b := ⟨fun h => by rw [← iL_t ha, ← iL_t hb, h], fun h => by rw [h]⟩
theorem iI_cl {z : Int} (h : rg z) : (iI z).toNatClampNeg = z.toNat := by
  show (iI z).toInt.toNat = z.toNat
  rw [iI_t h]
theorem iI_inj {a b : Int32} (h : a.toInt = b.toInt) : a = b := Int32.toInt_inj.mp h
theorem iL_inj {a b : Int64} (h : a.toInt = b.toInt) : a = b := Int64.toInt_inj.mp h
theorem iI_div {a b : Int} (ha : 0 ≤ a) (ha' : a < 2147483648) (hb : 0 < b) (hb' : b < 2147483648) : iI a / iI b = iI (a / b) := by
  have h1 : 0 ≤ a / b := Int.ediv_nonneg ha (by omega)
  have h2 : a / b ≤ a := Int.ediv_le_self b ha
  refine iI_inj ?_
  rw [Int32.toInt_div, iI_t ⟨by omega, ha'⟩, iI_t ⟨by omega, hb'⟩, iI_t ⟨by omega, by omega⟩, Int.tdiv_eq_ediv_of_nonneg ha]
  exact Int.bmod_eq_of_le (by show -(2147483648 : Int) ≤ _; omega) (by show _ < (2147483648 : Int); omega)
theorem iL_div {a b : Int} (ha : 0 ≤ a) (ha' : a < 9223372036854775808) (hb : 0 < b) (hb' : b < 9223372036854775808) : iL a / iL b = iL (a / b) := by
  have h1 : 0 ≤ a / b := Int.ediv_nonneg ha (by omega)
  have h2 : a / b ≤ a := Int.ediv_le_self b ha
  refine iL_inj ?_
  rw [Int64.toInt_div, iL_t ⟨by omega, ha'⟩, iL_t ⟨by omega, hb'⟩, iL_t ⟨by omega, by omega⟩, Int.tdiv_eq_ediv_of_nonneg ha]
  exact Int.bmod_eq_of_le (by show -(9223372036854775808 : Int) ≤ _; omega) (by show _ < (9223372036854775808 : Int); omega)
theorem iI_rem {a b : Int} (ha : 0 ≤ a) (ha' : a < 2147483648) (hb : 0 < b) (hb' : b < 2147483648) : iI a - iI a / iI b * iI b = iI (a % b) := by
  rw [iI_div ha ha' hb hb', iI_mul, iI_sub]
  congr 1
  rw [Int.emod_def, Int.mul_comm]
theorem iL_rem {a b : Int} (ha : 0 ≤ a) (ha' : a < 9223372036854775808) (hb : 0 < b) (hb' : b < 9223372036854775808) : iL a - iL a / iL b * iL b = iL (a % b) := by
  rw [iL_div ha ha' hb hb', iL_mul, iL_sub]
  congr 1
  rw [Int.emod_def, Int.mul_comm]
theorem iI_l {a : Int} (h : rg a) : (iI a).toInt64 = iL a := by
  refine iL_inj ?_
  rw [Int32.toInt_toInt64, iI_t h, iL_t ⟨by have := h.1; omega, by have := h.2; omega⟩]
theorem iL_i {a : Int} : (iL a).toInt32 = iI a := by
  show (Int64.ofInt a).toInt32 = Int32.ofInt a
  exact Int64.toInt32_ofInt
theorem iL_cmp {a b : Int} (ha : rL a) (hb : rL b) : lg_cmp (iL a) (iL b) = iI (if b < a then 1 else if a = b then 0 else -1) := by
  unfold lg_cmp
  by_cases h1 : b < a
  · rw [if_pos (show iL a > iL b from (iL_lt hb ha).mpr h1), if_pos h1]; rfl
  · rw [if_neg (fun z => h1 ((iL_lt hb ha).mp z)), if_neg h1]
    by_cases h2 : a = b
    · rw [if_pos ((iL_eq ha hb).mpr h2), if_pos h2]; rfl
    · rw [if_neg (fun z => h2 ((iL_eq ha hb).mp z)), if_neg h2]; rfl
