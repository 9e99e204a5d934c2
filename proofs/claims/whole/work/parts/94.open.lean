theorem gLoop {S : Nat} {xs : Nat → Int32} (hS : S ≤ 3072) (fm : Option gNm) (hfm : fm = none ∨ fm = some (4, 0)) : gLoopOk S xs fm := by
  sorry
theorem whole_start {p : Program} {e : Env} {s : State} {m : MethodId} {below : List Frame} {meth : Method} {c : Code} (l : Launch) (hflags : l.flags = flags0) {b L : Nat} {xs : Nat → Int32} (hL : L ≤ 3072) (C0 : lw_At p s m meth c b L xs) : W p l e room_1 s m #[Value.ref b] below meth c s.heap [] 0 0 (lw_Z below #[Value.ref b] s) (entryFrame m ([Value.ref b] : List Value).toArray 4) := gStart l C0 fun fm hfm => gLoop hL fm hfm
