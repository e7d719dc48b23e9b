abbrev Tb : Type := List (Nat × Instr × Nat)
def dck (c : ByteArray) (tb : Tb) : Bool := tb.all (fun e => decide (decode c e.1 = .ok e.2))
theorem dcg {c : ByteArray} {tb : Tb} (T : dck c tb = true) {i p n : Nat} {ins : Instr} (hi : tb[i]? = some (p, ins, n)) : decode c p = .ok (ins, n) := by
  have h := List.all_eq_true.mp T (p, ins, n) (List.mem_of_getElem? hi)
  exact of_decide_eq_true h
