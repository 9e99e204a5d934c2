/-! The law's loop out of a run of the small machine from its head. -/
def gLoopOk (S : Nat) (xs : Nat → Int32) (fm : Option gNm) : Prop := gq 1000 0 18 [some (.inr (.inr (some (0, 0)))), some (.inr (.inr (some (10, 0)))), some (.inr (.inr (some (50, 0)))), some (.inl 0)] [] (gwd S (gI1 xs) gJ1 (0, fm)) (fun rv w => rv = some (.inl 1) ∧ w.1 = 127 ∧ w.2.1 = S)
theorem gStart {p : Program} {e : Env} {s : State} {m : MethodId} {below : List Frame} {meth : Method} {c : Code} (l : Launch) {b L : Nat} {xs : Nat → Int32} (C0 : lw_At p s m meth c b L xs) (hloop : ∀ fm : Option gNm, fm = none ∨ fm = some (4, 0) → gLoopOk L xs fm) : W p l e room_1 s m #[Value.ref b] below meth c s.heap [] 0 0 (lw_Z below #[Value.ref b] s) (entryFrame m ([Value.ref b] : List Value).toArray 4) := by
  have C1 := C0
  obtain ⟨hx, hb, hr, hml, hown, htb, hX, hbl, hlocks, hgv⟩ := C1
  refine gWhole l C0 (fun fm hfm => ?_) (fun H pc ls hd => lw_ret hx hb hr hlocks hd)
  obtain ⟨n, rv, w', h1, h2, h3, h4⟩ := hloop fm hfm
  subst h2
  refine ⟨w', gBoot (gsound gpr_ok _ _ _ _ _ _ _ _ _ h1), by omega, ?_⟩
  have e1 : gsz w' = gsz ((127, L, w'.2.2) : gW) := gsz_same h3 h4
  rw [e1]
  exact Nat.le_of_ble_eq_true rfl
