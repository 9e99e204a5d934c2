theorem gpr_ok : ∀ (y pc : Nat) (op : gOp), gpr y pc = some op → gOk y pc op := sorry
