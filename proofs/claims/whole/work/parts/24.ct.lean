/-! the two constructors run -/
def ct_w0 : vm_W := (0, 0, fun _ => .inr (.inr (100, [])))
def ct_new (w : vm_W) (a : Nat) : vm_W := match vwCl[a]? with
  | some (_, _, N) => (w.1 + 1, w.2.1 + N, vm_up w.2.2 w.1 (.inr (.inr (a, (List.range N).map (fun j => defaultValue (vm_ty a j))))))
  | none => w
def ct_1 : Option (Option Value × vm_W) := vm_run 100000 20 92 0 (vm_ent 2 [.ref 0]) [] (ct_new ct_w0 9)
set_option maxRecDepth 1000000 in
theorem ct_test : (match ct_1 with
  | some (none, w) => w.1 == 95
  | _ => false) = true := by decide +kernel
