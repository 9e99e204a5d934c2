/-! The law's loop out of a run of the small machine from its head. -/
def gLoopOk (S : Nat) (xs : Nat → Int32) (fm : Option gNm) : Prop := gq 1000 0 18 [some (.inr (.inr (some (0, 0)))), some (.inr (.inr (some (10, 0)))), some (.inr (.inr (some (50, 0)))), some (.inl 0)] [] (gwd S (gI1 xs) gJ1 (0, fm)) (fun rv w => rv = some (.inl 1) ∧ w.1 = 127 ∧ w.2.1 = S)
theorem ggetD (l : List Nat) (h : l.all (fun v => Nat.ble v 8000) = true) (i : Nat) : l.getD i 0 ≤ 8000 := by
  rw [List.getD_eq_getElem?_getD]
  cases e : l[i]? with
  | none => exact Nat.zero_le _
  | some v => exact Nat.le_of_ble_eq_true (List.all_eq_true.mp h v (List.mem_of_getElem? e))
def gBd : gKd → Prop
  | some (.inl (_, tys)) => tys.length ≤ 8000
  | some (.inr (_, len)) => ∀ L i, len L i ≤ 8000
  | none => True
theorem gkd_bd : ∀ z ∈ gkdL, gBd z := by
  unfold gkdL
  simp only [List.forall_mem_cons]
  repeat' apply And.intro
  all_goals first
    | exact trivial
    | exact Nat.le_of_ble_eq_true rfl
    | exact fun _ _ => Nat.le_of_ble_eq_true rfl
    | exact fun _ i => ggetD _ (by decide) i
    | exact fun _ h => absurd h List.not_mem_nil
theorem gcsz_le (L : Nat) (n : gNm) : gcsz L n ≤ 8000 := by
  unfold gcsz
  split
  · rename_i h; exact gkd_bd _ (gkd_in h)
  · rename_i h; exact gkd_bd _ (gkd_in h) L n.2
  · exact Nat.zero_le _
theorem gsum_le (L : Nat) : ∀ l : List gNm, (l.map (gcsz L)).sum ≤ 8000 * l.length
  | [] => Nat.le_refl _
  | n :: l => by
    have := gsum_le L l
    have := gcsz_le L n
    simp only [List.map_cons, List.sum_cons, List.length_cons]
    omega
theorem gStart {p : Program} {e : Env} {s : State} {m : MethodId} {below : List Frame} {meth : Method} {c : Code} (l : Launch) {b L : Nat} {xs : Nat → Int32} (C0 : lw_At p s m meth c b L xs) (hloop : ∀ fm : Option gNm, fm = none ∨ fm = some (4, 0) → gLoopOk L xs fm) : W p l e room_1 s m #[Value.ref b] below meth c s.heap [] 0 0 (lw_Z below #[Value.ref b] s) (entryFrame m ([Value.ref b] : List Value).toArray 4) := by
  have C1 := C0
  obtain ⟨hx, hb, hr, hml, hown, htb, hX, hbl, hlocks, hgv⟩ := C1
  refine gWhole l C0 (fun fm hfm => ?_) (fun H pc ls hd => lw_ret hx hb hr hlocks hd)
  obtain ⟨n, rv, w', h1, h2, h3, h4⟩ := hloop fm hfm
  subst h2
  refine ⟨w', gBoot (gsound gpr_ok _ _ _ _ _ _ _ _ _ h1), by omega, ?_⟩
  have e1 : gsz w' = gsz ((127, L, w'.2.2) : gW) := gsz_same h3 h4
  rw [e1]
  have h5 := gsum_le L (gnmL.take 127)
  have h6 : (gnmL.take 127).length ≤ 127 := by rw [List.length_take]; exact Nat.min_le_left _ _
  show ((gnmL.take 127).map (gcsz L)).sum ≤ 7302250
  omega
