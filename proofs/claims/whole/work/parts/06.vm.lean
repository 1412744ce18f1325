/-! A PURE MACHINE: the instructions of the program over a world of numbered cells. Its runs are tied to the real machine once, in part 07. -/
abbrev vm_E : Type := (Nat × (Nat → Int32)) ⊕ ((Nat × (Nat → Option Nat)) ⊕ (Nat × List Value))
/-- how many cells, how many slots, the cells -/
abbrev vm_W : Type := Nat × Nat × (Nat → vm_E)
abbrev vm_L : Type := List (Option Value)
/-- the script's cell, the literal's cell -/
abbrev vm_scr : Nat := 1000000
abbrev vm_str : Nat := 1000001
def vm_up (w : Nat → vm_E) (i : Nat) (e : vm_E) : Nat → vm_E := fun j => if j = i then e else w j
def vm_ld (ls : vm_L) (i : Nat) : Option Value := match ls, i with
  | [], _ => none
  | a :: _, 0 => a
  | _ :: t, i + 1 => vm_ld t i
/-- a long loses its place when its second half is written over -/
def vm_nl (x : Option Value) : Option Value := match x with
  | some (.long _) => none
  | some (.double _) => none
  | x => x
def vm_st1 (ls : vm_L) (i : Nat) (v : Value) : vm_L := match ls, i with
  | [], _ => []
  | _ :: t, 0 => some v :: t
  | a :: t, 1 => match t with
    | [] => [a]
    | _ :: t2 => vm_nl a :: some v :: t2
  | a :: t, i + 2 => a :: vm_st1 t (i + 1) v
def vm_st2 (ls : vm_L) (i : Nat) (v : Value) : vm_L := match ls, i with
  | [], _ => []
  | _ :: t, 0 => some v :: none :: t.drop 1
  | a :: t, 1 => match t with
    | [] => [a]
    | _ :: t2 => vm_nl a :: some v :: none :: t2.drop 1
  | a :: t, i + 2 => a :: vm_st2 t (i + 1) v
def vm_cmp (c : Jvm.ClassFile.Cond) (x y : Int32) : Bool := match c with
  | .eq => decide (x = y)
  | .ne => decide (¬ x = y)
  | .lt => decide (x < y)
  | .ge => decide (y ≤ x)
  | .gt => decide (y < x)
  | .le => decide (x ≤ y)
def vm_tg (pc : Nat) (off : Int) : Nat := ((pc : Int) + off).toNat
def vm_fit (ty : FieldType) (v : Value) : Bool := match ty, v with
  | .int, .int _ => true
  | .object _, .ref _ => true
  | .array _, .ref _ => true
  | _, _ => false
/-- the field b of class a, written to by a method of record r -/
def vm_fin (r : vm_M) (a b : Nat) : Bool := match vwCl[a]? with
  | some (_, T, _) => (T b).2.2.2 == false || ((r.2.1.name == "<init>") && ((T b).1 == r.1))
  | none => false
def vm_txt : List Int32 := ("t1203;t2194;t4330;t0952;t5149;t9995;r0;r1;r0;r2;c0,9,3,2,1,2;c2,5,1,4,2,0;c0,12,0,0,3,3;".toList).map (fun c => Int32.ofNat c.toNat)
def vm_push (x : Option Value) (p : Value → Bool) (pc : Nat) (ls : vm_L) (st : List Value) (w : vm_W) : Option (Nat × vm_L × List Value × vm_W) := match x with
  | some v => if p v = true then some (pc, ls, v :: st, w) else none
  | none => none
def vm_isI (v : Value) : Bool := match v with
  | .int _ => true
  | _ => false
def vm_isJ (v : Value) : Bool := match v with
  | .long _ => true
  | _ => false
def vm_isA (v : Value) : Bool := match v with
  | .ref _ => true
  | .null => true
  | _ => false
def vm_bin (pc : Nat) (ls : vm_L) (st : List Value) (w : vm_W) (f : Int32 → Int32 → Option Int32) : Option (Nat × vm_L × List Value × vm_W) := match st with
  | .int y :: .int x :: st => match f x y with
    | some z => some (pc + 1, ls, .int z :: st, w)
    | none => none
  | _ => none
def vm_lbin (pc : Nat) (ls : vm_L) (st : List Value) (w : vm_W) (f : Int64 → Int64 → Option Value) : Option (Nat × vm_L × List Value × vm_W) := match st with
  | .long y :: .long x :: st => match f x y with
    | some z => some (pc + 1, ls, z :: st, w)
    | none => none
  | _ => none
def vm_sti (pc : Nat) (k : Nat) (ls : vm_L) (st : List Value) (w : vm_W) : Option (Nat × vm_L × List Value × vm_W) := match st with
  | .int x :: st => if k < ls.length then some (pc, vm_st1 ls k (.int x), st, w) else none
  | _ => none
def vm_sta (pc : Nat) (k : Nat) (ls : vm_L) (st : List Value) (w : vm_W) : Option (Nat × vm_L × List Value × vm_W) := match st with
  | .ref x :: st => if k < ls.length then some (pc, vm_st1 ls k (.ref x), st, w) else none
  | .null :: st => if k < ls.length then some (pc, vm_st1 ls k .null, st, w) else none
  | _ => none
def vm_stl (pc : Nat) (k : Nat) (ls : vm_L) (st : List Value) (w : vm_W) : Option (Nat × vm_L × List Value × vm_W) := match st with
  | .long x :: st => if k + 1 < ls.length then some (pc, vm_st2 ls k (.long x), st, w) else none
  | _ => none
def vm_iinc (pc : Nat) (k : Nat) (n : Int) (ls : vm_L) (st : List Value) (w : vm_W) : Option (Nat × vm_L × List Value × vm_W) := match vm_ld ls k with
  | some (.int x) => if k < ls.length then some (pc + 3, vm_st1 ls k (.int (x + Int32.ofInt n)), st, w) else none
  | _ => none
def vm_jmp (pc : Nat) (off : Int) (ls : vm_L) (st : List Value) (w : vm_W) : Option (Nat × vm_L × List Value × vm_W) :=
  if 0 ≤ (pc : Int) + off then some (vm_tg pc off, ls, st, w) else none
def vm_if0 (c : Jvm.ClassFile.Cond) (pc : Nat) (off : Int) (ls : vm_L) (st : List Value) (w : vm_W) : Option (Nat × vm_L × List Value × vm_W) := match st with
  | .int x :: st => if 0 ≤ (pc : Int) + off then (if vm_cmp c x 0 = true then some (vm_tg pc off, ls, st, w) else some (pc + 3, ls, st, w)) else none
  | _ => none
def vm_if2 (c : Jvm.ClassFile.Cond) (pc : Nat) (off : Int) (ls : vm_L) (st : List Value) (w : vm_W) : Option (Nat × vm_L × List Value × vm_W) := match st with
  | .int y :: .int x :: st => if 0 ≤ (pc : Int) + off then (if vm_cmp c x y = true then some (vm_tg pc off, ls, st, w) else some (pc + 3, ls, st, w)) else none
  | _ => none
def vm_ifn (nn : Bool) (pc : Nat) (off : Int) (ls : vm_L) (st : List Value) (w : vm_W) : Option (Nat × vm_L × List Value × vm_W) := match st with
  | .ref _ :: st => if 0 ≤ (pc : Int) + off then some (if nn = true then vm_tg pc off else pc + 3, ls, st, w) else none
  | .null :: st => if 0 ≤ (pc : Int) + off then some (if nn = true then pc + 3 else vm_tg pc off, ls, st, w) else none
  | _ => none
def vm_tab (pc : Nat) (d lo hi : Int) (os : Array Int) (ls : vm_L) (st : List Value) (w : vm_W) : Option (Nat × vm_L × List Value × vm_W) := match st with
  | .int x :: st => if x.toInt < lo ∨ hi < x.toInt then vm_jmp pc d ls st w else match os[(x.toInt - lo).toNat]? with
    | some off => vm_jmp pc off ls st w
    | none => none
  | _ => none
def vm_lku (pc : Nat) (d : Int) (ps : Array (Int × Int)) (ls : vm_L) (st : List Value) (w : vm_W) : Option (Nat × vm_L × List Value × vm_W) := match st with
  | .int x :: st => if (ps.toList.zip (ps.toList.drop 1)).all (fun (a, next) => a.1 < next.1) = true then vm_jmp pc (Op.lookupswitch.offset ps.toList d x.toInt) ls st w else none
  | _ => none
def vm_get (a b pc : Nat) (ls : vm_L) (st : List Value) (w : vm_W) : Option (Nat × vm_L × List Value × vm_W) := match st with
  | .ref i :: st => if i < w.1 then match w.2.2 i with
    | .inr (.inr (ci, fs)) => if ci = a then match fs[b]? with
      | some v => some (pc + 3, ls, v :: st, w)
      | none => none
      else none
    | _ => none
    else none
  | _ => none
def vm_put (r : vm_M) (a b pc : Nat) (ls : vm_L) (st : List Value) (w : vm_W) : Option (Nat × vm_L × List Value × vm_W) := match st with
  | v :: .ref i :: st => if i < w.1 then match w.2.2 i with
    | .inr (.inr (ci, fs)) => if ci = a ∧ b < fs.length ∧ vm_fit (vm_ty a b) v = true ∧ vm_fin r a b = true then some (pc + 3, ls, st, (w.1, w.2.1, vm_up w.2.2 i (.inr (.inr (ci, fs.set b v))))) else none
    | _ => none
    else none
  | _ => none
def vm_ald (pc : Nat) (ls : vm_L) (st : List Value) (w : vm_W) : Option (Nat × vm_L × List Value × vm_W) := match st with
  | .int j :: .ref i :: st => if i < w.1 ∨ i = vm_scr then match w.2.2 i with
    | .inl (n, f) => if j < 0 ∨ n ≤ j.toNatClampNeg then none else some (pc + 1, ls, .int (f j.toNatClampNeg) :: st, w)
    | _ => none
    else none
  | _ => none
def vm_ast (pc : Nat) (ls : vm_L) (st : List Value) (w : vm_W) : Option (Nat × vm_L × List Value × vm_W) := match st with
  | .int x :: .int j :: .ref i :: st => if i < w.1 then match w.2.2 i with
    | .inl (n, f) => if j < 0 ∨ n ≤ j.toNatClampNeg then none else some (pc + 1, ls, st, (w.1, w.2.1, vm_up w.2.2 i (.inl (n, upd f j.toNatClampNeg x))))
    | _ => none
    else none
  | _ => none
def vm_qld (pc : Nat) (ls : vm_L) (st : List Value) (w : vm_W) : Option (Nat × vm_L × List Value × vm_W) := match st with
  | .int j :: .ref i :: st => if i < w.1 then match w.2.2 i with
    | .inr (.inl (n, g)) => if j < 0 ∨ n ≤ j.toNatClampNeg then none else match g j.toNatClampNeg with
      | some k => some (pc + 1, ls, .ref k :: st, w)
      | none => none
    | _ => none
    else none
  | _ => none
def vm_isC (e : vm_E) : Bool := match e with
  | .inr (.inr (0, _)) => true
  | _ => false
def vm_qst (pc : Nat) (ls : vm_L) (st : List Value) (w : vm_W) : Option (Nat × vm_L × List Value × vm_W) := match st with
  | .ref v :: .int j :: .ref i :: st => if i < w.1 ∧ v < w.1 ∧ vm_isC (w.2.2 v) = true then match w.2.2 i with
    | .inr (.inl (n, g)) => if j < 0 ∨ n ≤ j.toNatClampNeg then none else some (pc + 1, ls, st, (w.1, w.2.1, vm_up w.2.2 i (.inr (.inl (n, va_up g j.toNatClampNeg (some v))))))
    | _ => none
    else none
  | _ => none
def vm_alen (pc : Nat) (ls : vm_L) (st : List Value) (w : vm_W) : Option (Nat × vm_L × List Value × vm_W) := match st with
  | .ref i :: st => if i < w.1 ∨ i = vm_scr then match w.2.2 i with
    | .inl (n, _) => some (pc + 1, ls, .int (Int32.ofNat n) :: st, w)
    | .inr (.inl (n, _)) => if i < w.1 then some (pc + 1, ls, .int (Int32.ofNat n) :: st, w) else none
    | _ => none
    else none
  | _ => none
def vm_newi (pc : Nat) (ls : vm_L) (st : List Value) (w : vm_W) : Option (Nat × vm_L × List Value × vm_W) := match st with
  | .int n :: st => if ¬ n < 0 ∧ n.toNatClampNeg ≤ 1000 ∧ w.1 < 1000 then some (pc + 2, ls, .ref w.1 :: st, (w.1 + 1, w.2.1 + n.toNatClampNeg, vm_up w.2.2 w.1 (.inl (n.toNatClampNeg, fun _ => 0)))) else none
  | _ => none
def vm_newq (pc : Nat) (ls : vm_L) (st : List Value) (w : vm_W) : Option (Nat × vm_L × List Value × vm_W) := match st with
  | .int n :: st => if ¬ n < 0 ∧ n.toNatClampNeg ≤ 1000 ∧ w.1 < 1000 then some (pc + 3, ls, .ref w.1 :: st, (w.1 + 1, w.2.1 + n.toNatClampNeg, vm_up w.2.2 w.1 (.inr (.inl (n.toNatClampNeg, fun _ => none))))) else none
  | _ => none
def vm_new (a pc : Nat) (ls : vm_L) (st : List Value) (w : vm_W) : Option (Nat × vm_L × List Value × vm_W) := match vwCl[a]? with
  | some (_, _, N) => if w.1 < 1000 then some (pc + 3, ls, .ref w.1 :: st, (w.1 + 1, w.2.1 + N, vm_up w.2.2 w.1 (.inr (.inr (a, (List.range N).map (fun j => defaultValue (vm_ty a j))))))) else none
  | none => none
def vm_dup2 (pc : Nat) (ls : vm_L) (st : List Value) (w : vm_W) : Option (Nat × vm_L × List Value × vm_W) := match st with
  | va :: vb :: st => if va.category = 1 ∧ vb.category = 1 then some (pc + 1, ls, va :: vb :: va :: vb :: st, w) else none
  | _ => none
def vm_dup (pc : Nat) (ls : vm_L) (st : List Value) (w : vm_W) : Option (Nat × vm_L × List Value × vm_W) := match st with
  | va :: st => if va.category = 1 then some (pc + 1, ls, va :: va :: st, w) else none
  | _ => none
def vm_pop (pc : Nat) (ls : vm_L) (st : List Value) (w : vm_W) : Option (Nat × vm_L × List Value × vm_W) := match st with
  | va :: st => if va.category = 1 then some (pc + 1, ls, st, w) else none
  | _ => none
def vm_i2l (pc : Nat) (ls : vm_L) (st : List Value) (w : vm_W) : Option (Nat × vm_L × List Value × vm_W) := match st with
  | .int x :: st => some (pc + 1, ls, .long x.toInt64 :: st, w)
  | _ => none
def vm_l2i (pc : Nat) (ls : vm_L) (st : List Value) (w : vm_W) : Option (Nat × vm_L × List Value × vm_W) := match st with
  | .long x :: st => some (pc + 1, ls, .int x.toInt32 :: st, w)
  | _ => none
/-- Object.<init> -/
def vm_oin (d pc : Nat) (ls : vm_L) (st : List Value) (w : vm_W) : Option (Nat × vm_L × List Value × vm_W) := match st with
  | .ref _ :: st => if 1 ≤ d ∧ (st.map fun v => v.category).sum ≤ 8 then some (pc + 3, ls, st, w) else none
  | _ => none
/-- length() of the literal -/
def vm_sln (d pc : Nat) (ls : vm_L) (st : List Value) (w : vm_W) : Option (Nat × vm_L × List Value × vm_W) := match st with
  | .ref i :: st => if i = vm_str ∧ 10 ≤ d ∧ (st.map fun v => v.category).sum ≤ 8 then some (pc + 3, ls, .int (Int32.ofNat vm_txt.length) :: st, w) else none
  | _ => none
/-- charAt(j) of the literal -/
def vm_sch (d pc : Nat) (ls : vm_L) (st : List Value) (w : vm_W) : Option (Nat × vm_L × List Value × vm_W) := match st with
  | .int j :: .ref i :: st => if i = vm_str ∧ 10 ≤ d ∧ (st.map fun v => v.category).sum ≤ 8 ∧ ¬ j < 0 then match vm_txt[j.toNatClampNeg]? with
    | some z => some (pc + 3, ls, .int z :: st, w)
    | none => none
    else none
  | _ => none
def vm_lc (v : Option Value) (pc : Nat) (ls : vm_L) (st : List Value) (w : vm_W) : Option (Nat × vm_L × List Value × vm_W) := match v with
  | some v => some (pc, ls, v :: st, w)
  | none => none
/-- one instruction that neither calls nor returns -/
def vm_step (d : Nat) (r : vm_M) (q : vm_I) (ls : vm_L) (st : List Value) (w : vm_W) : Option (Nat × vm_L × List Value × vm_W) :=
  let pc := q.1
  let a := q.2.2.2.1
  let b := q.2.2.2.2.1
  match q.2.1 with
  | .iconst n => some (pc + 1, ls, .int (Int32.ofInt n) :: st, w)
  | .bipush n => some (pc + 2, ls, .int (Int8.ofInt n).toInt32 :: st, w)
  | .sipush n => some (pc + 3, ls, .int (Int16.ofInt n).toInt32 :: st, w)
  | .lconst n => some (pc + 1, ls, .long (Int64.ofNat (n : Nat)) :: st, w)
  | .ldc _ => if a = 99 then some (pc + 2, ls, .ref vm_str :: st, w) else vm_lc (vm_KI[a]?.map Value.int) (pc + 2) ls st w
  | .ldc2_w _ => vm_lc (vm_KL[a]?.map Value.long) (pc + 3) ls st w
  | .aconst_null => some (pc + 1, ls, .null :: st, w)
  | .iload_n k => vm_push (vm_ld ls k) vm_isI (pc + 1) ls st w
  | .iload k => vm_push (vm_ld ls k) vm_isI (pc + 2) ls st w
  | .lload_n k => vm_push (vm_ld ls k) vm_isJ (pc + 1) ls st w
  | .lload k => vm_push (vm_ld ls k) vm_isJ (pc + 2) ls st w
  | .aload_n k => vm_push (vm_ld ls k) vm_isA (pc + 1) ls st w
  | .istore_n k => vm_sti (pc + 1) k ls st w
  | .istore k => vm_sti (pc + 2) k ls st w
  | .astore_n k => vm_sta (pc + 1) k ls st w
  | .lstore_n k => vm_stl (pc + 1) k ls st w
  | .lstore k => vm_stl (pc + 2) k ls st w
  | .iinc k n => vm_iinc pc k n ls st w
  | .iadd => vm_bin pc ls st w fun x y => some (x + y)
  | .isub => vm_bin pc ls st w fun x y => some (x - y)
  | .imul => vm_bin pc ls st w fun x y => some (x * y)
  | .idiv => vm_bin pc ls st w fun x y => if y = 0 then none else some (x / y)
  | .irem => vm_bin pc ls st w fun x y => if y = 0 then none else some (x - x / y * y)
  | .iand => vm_bin pc ls st w fun x y => some (x &&& y)
  | .ior => vm_bin pc ls st w fun x y => some (x ||| y)
  | .ixor => vm_bin pc ls st w fun x y => some (x ^^^ y)
  | .ishl => vm_bin pc ls st w fun x y => some (x <<< (y &&& 31))
  | .ishr => vm_bin pc ls st w fun x y => some (x >>> (y &&& 31))
  | .ladd => vm_lbin pc ls st w fun x y => some (.long (x + y))
  | .lmul => vm_lbin pc ls st w fun x y => some (.long (x * y))
  | .ldiv => vm_lbin pc ls st w fun x y => if y = 0 then none else some (.long (x / y))
  | .lrem => vm_lbin pc ls st w fun x y => if y = 0 then none else some (.long (x - x / y * y))
  | .lcmp => vm_lbin pc ls st w fun x y => some (.int (lg_cmp x y))
  | .i2l => vm_i2l pc ls st w
  | .l2i => vm_l2i pc ls st w
  | .dup => vm_dup pc ls st w
  | .dup2 => vm_dup2 pc ls st w
  | .pop => vm_pop pc ls st w
  | .getfield _ => vm_get a b pc ls st w
  | .putfield _ => vm_put r a b pc ls st w
  | .iaload => vm_ald pc ls st w
  | .iastore => vm_ast pc ls st w
  | .aaload => vm_qld pc ls st w
  | .aastore => vm_qst pc ls st w
  | .arraylength => vm_alen pc ls st w
  | .newarray _ => vm_newi pc ls st w
  | .anewarray _ => vm_newq pc ls st w
  | .new _ => vm_new a pc ls st w
  | .goto off => vm_jmp pc off ls st w
  | .ifCond c off => vm_if0 c pc off ls st w
  | .if_icmp c off => vm_if2 c pc off ls st w
  | .ifnull off => vm_ifn false pc off ls st w
  | .ifnonnull off => vm_ifn true pc off ls st w
  | .tableswitch d lo hi os => vm_tab pc d lo hi os ls st w
  | .lookupswitch d ps => vm_lku pc d ps ls st w
  | .invokespecial _ => if a = 5 then vm_oin d pc ls st w else none
  | .invokevirtual _ => if a = 6 then vm_sln d pc ls st w else if a = 7 then vm_sch d pc ls st w else none
  | _ => none
/-- what a return hands back -/
def vm_ret (r : vm_M) (q : vm_I) (st : List Value) : Option (Option Value) := match q.2.1 with
  | .ireturn => match st with
    | [.int v] => match r.2.2.2.2.1 with
      | some .int => some (some (.int v))
      | some .boolean => if v = 0 ∨ v = 1 then some (some (.int v)) else none
      | _ => none
    | _ => none
  | .areturn => match st with
    | [.ref v] => match r.2.2.2.2.1 with
      | some (.object _) => some (some (.ref v))
      | _ => none
    | _ => none
  | .return_ => match st with
    | [] => match r.2.2.2.2.1 with
      | none => some none
      | _ => none
    | _ => none
  | _ => none
/-- a call: the callee, its arguments (the receiver first), the rest of the stack -/
def vm_call (q : vm_I) (st : List Value) (w : vm_W) : Option (Nat × List Value × List Value) :=
  let a := q.2.2.2.1
  let b := q.2.2.2.2.1
  let n := q.2.2.2.2.2 % 100
  let c := q.2.2.2.2.2 / 100
  match q.2.1 with
  | .invokevirtual _ => if a = 0 then match st[n]? with
    | some (.ref i) => if i < w.1 then match w.2.2 i with
      | .inr (.inr (ci, _)) => if ci = c ∧ ((st.drop (n + 1)).map fun v => v.category).sum ≤ 8 then some (b, (st.take (n + 1)).reverse, st.drop (n + 1)) else none
      | _ => none
      else none
    | _ => none
    else none
  | .invokestatic _ => if n ≤ st.length ∧ ((st.drop n).map fun v => v.category).sum ≤ 8 then some (b, (st.take n).reverse, st.drop n) else none
  | .invokespecial _ => if a = 2 ∨ a = 4 then match st[n]? with
    | some (.ref _) => if ((st.drop (n + 1)).map fun v => v.category).sum ≤ 8 then some (b, (st.take (n + 1)).reverse, st.drop (n + 1)) else none
    | _ => none
    else none
  | _ => none
def vm_args (as : List Value) : vm_L := as.flatMap fun v => if v.category = 2 then [some v, none] else [some v]
def vm_ent (n : Nat) (as : List Value) : vm_L := vm_args as ++ List.replicate (n - (vm_args as).length) none
def vm_find (l : List vm_I) (pc : Nat) : Option vm_I := match l with
  | [] => none
  | q :: l => if q.1 = pc then some q else vm_find l pc
/-- a run: fuel, how many frames may stand above, the method, its frame, the world -/
def vm_run : Nat → Nat → Nat → Nat → vm_L → List Value → vm_W → Option (Option Value × vm_W)
  | 0, _, _, _, _, _, _ => none
  | F + 1, d, mid, pc, ls, st, w =>
    match vm_MT[mid]? with
    | none => none
    | some r => match vm_find r.2.2.2.2.2 pc with
      | none => none
      | some q => match vm_ret r q st with
        | some v => some (v, w)
        | none => match vm_call q st w with
          | some (mid', as, rest) => match d with
            | 0 => none
            | d' + 1 => if mid' < 205 then match vm_MT[mid']? with
              | none => none
              | some r' => if (vm_args as).length ≤ r'.2.2.2.1 then match vm_run F d' mid' 0 (vm_ent r'.2.2.2.1 as) [] w with
                | none => none
                | some (v, w') => vm_run F (d' + 1) mid (pc + 3) ls (v.toList ++ rest) w'
                else none
              else none
          | none => match vm_step d r q ls st w with
            | none => none
            | some (pc', ls', st', w') => vm_run F d mid pc' ls' st' w'
