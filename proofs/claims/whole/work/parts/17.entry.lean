/-! From the law's entry into the small machine. -/
def gI0 (xs : Nat → Int32) : Nat → Nat → Nat → Int32 := fun k i j => match k with
  | 0 => xs j
  | 1 => ([3, 125, 157] : List Int32).getD j 0
  | 3 => gwI0.getD j 0
  | _ => 0
def gw0 (L : Nat) (xs : Nat → Int32) (fm : Option gNm) : gW := (0, L, gI0 xs, fun _ _ _ => 0, fun k _ j => cond (Nat.beq k 4) (cond (Nat.beq j 0) fm none) none)
theorem gX_T {b L : Nat} {xs : Nat → Int32} {s : State} {A : Nat → Prop} (hX : va_X b L xs s s.heap) (hA : ¬ A b) : va_T .int b L (fun j => .int (xs j)) A s s.heap := by
  obtain ⟨scr, h1, h2, h3, h4, h5⟩ := hX
  exact ⟨scr, h1, h2, h3, Nat.le_of_eq h4.symm, by rw [h4], h5, hA⟩
theorem gArr {s : State} {args : Array Value} {ty : FieldType} (hty : ∀ C, ty ≠ .object C) (h : (Cond.arrayClass ty).before args s = true) : ∃ cA : ClassId, ArrOfT s cA ty ∧ va_RA s cA ty := by
  obtain ⟨cA, kA, comp, h1, h2, h3⟩ := Cond.arrayClass_spec h
  refine ⟨cA, fun n z => ⟨fun k h => (by cases h), kA, h2, comp, h3⟩, ?_⟩
  cases ty with
  | object C => exact absurd rfl (hty C)
  | _ => exact h1
theorem gKnown {s : State} {args : Array Value} (hts : ∀ w ∈ gWS, w.before args s = true) : ∃ D : va_G, ∀ (c : Nat) (q : vw_C), vwCl[c]? = some q → u_Kn s q.1 q.2.1 q.2.2 (D.1 c) (D.2 c) := by
  obtain ⟨c0, i0, k0⟩ := u_known (C := RX0) (T := TX0) (N := 10) (n := 10) hts gcl0.1 (hts (.instantiable RX0 10) (gI_mem (p := (1, 156)) (by decide +kernel)))
  obtain ⟨c1, i1, k1⟩ := u_known (C := RX1) (T := TX1) (N := 17) (n := 17) hts gcl1.1 (hts (.instantiable RX1 17) (gI_mem (p := (2, 52)) (by decide +kernel)))
  obtain ⟨c2, i2, k2⟩ := u_known (C := RX2) (T := TX2) (N := 4) (n := 4) hts gcl2.1 (hts (.instantiable RX2 4) (gI_mem (p := (1, 114)) (by decide +kernel)))
  obtain ⟨c3, i3, k3⟩ := u_known (C := RX3) (T := TX3) (N := 5) (n := 5) hts gcl3.1 (hts (.instantiable RX3 5) (gI_mem (p := (2, 13)) (by decide +kernel)))
  obtain ⟨c4, i4, k4⟩ := u_known (C := RX4) (T := TX4) (N := 2) (n := 2) hts gcl4.1 (hts (.instantiable RX4 2) (gI_mem (p := (2, 36)) (by decide +kernel)))
  obtain ⟨c5, i5, k5⟩ := u_known (C := RX5) (T := TX5) (N := 5) (n := 5) hts gcl5.1 (hts (.instantiable RX5 5) (gI_mem (p := (1, 76)) (by decide +kernel)))
  obtain ⟨c6, i6, k6⟩ := u_known (C := RX6) (T := TX6) (N := 0) (n := 0) hts gcl6.1 (hts (.instantiable RX6 0) (gI_mem (p := (1, 149)) (by decide +kernel)))
  obtain ⟨c7, i7, k7⟩ := u_known (C := RX7) (T := TX7) (N := 7) (n := 7) hts gcl7.1 (hts (.instantiable RX7 7) (gI_mem (p := (1, 82)) (by decide +kernel)))
  obtain ⟨c8, i8, k8⟩ := u_known (C := RX8) (T := TX8) (N := 7) (n := 7) hts gcl8.1 (hts (.instantiable RX8 7) (gI_mem (p := (1, 162)) (by decide +kernel)))
  obtain ⟨c9, i9, k9⟩ := u_known (C := RX9) (T := TX9) (N := 8) (n := 8) hts gcl9.1 (hts (.instantiable RX9 8) (gI_mem (p := (1, 30)) (by decide +kernel)))
  obtain ⟨c10, i10, k10⟩ := u_known (C := RX11) (T := TX11) (N := 14) (n := 14) hts gcl10.1 (hts (.instantiable RX11 14) (gI_mem (p := (1, 22)) (by decide +kernel)))
  obtain ⟨c11, i11, k11⟩ := u_known (C := RX12) (T := TX12) (N := 110) (n := 110) hts gcl11.1 (hts (.instantiable RX12 110) (gI_mem (p := (5, 176)) (by decide +kernel)))
  refine ⟨(fun k => ([c0, c1, c2, c3, c4, c5, c6, c7, c8, c9, c10, c11] : List ClassId).getD k c0, fun k => ([i0, i1, i2, i3, i4, i5, i6, i7, i8, i9, i10, i11] : List (Nat → Nat)).getD k i0), fun c q h => ?_⟩
  match c, h with
  | 0, h => cases h; exact k0
  | 1, h => cases h; exact k1
  | 2, h => cases h; exact k2
  | 3, h => cases h; exact k3
  | 4, h => cases h; exact k4
  | 5, h => cases h; exact k5
  | 6, h => cases h; exact k6
  | 7, h => cases h; exact k7
  | 8, h => cases h; exact k8
  | 9, h => cases h; exact k9
  | 10, h => cases h; exact k10
  | 11, h => cases h; exact k11
  | n + 12, h => simp [vwCl] at h
theorem gArrs {s : State} {args : Array Value} (hts : ∀ w ∈ gWS, w.before args s = true) : ∃ dA : Nat → ClassId, ∀ (k : Nat) (q : ClassId × FieldType), (gtys dA)[k]? = some q → ArrOfT s q.1 q.2 ∧ va_RA s q.1 q.2 := by
  obtain ⟨a0, h0⟩ := gArr (ty := .int) (fun C h => by cases h) (hts _ (gI_mem (c := .arrayClass .int) (p := (1, 112)) (by decide +kernel)))
  obtain ⟨a1, h1⟩ := gArr (ty := .long) (fun C h => by cases h) (hts _ (gI_mem (c := .arrayClass .long) (p := (7, 33)) (by decide +kernel)))
  obtain ⟨a3, h3⟩ := gArr (ty := .boolean) (fun C h => by cases h) (hts _ (gI_mem (c := .arrayClass .boolean) (p := (2, 11)) (by decide +kernel)))
  obtain ⟨a4, h4⟩ := gArr (ty := .char) (fun C h => by cases h) (hts _ (gI_mem (c := .arrayClass .char) (p := (7, 32)) (by decide +kernel)))
  obtain ⟨a5, h5⟩ := gArr (ty := .byte) (fun C h => by cases h) (hts _ (gI_mem (c := .arrayClass .byte) (p := (1, 74)) (by decide +kernel)))
  refine ⟨fun k => match k with | 0 => a0 | 1 => a1 | 3 => a3 | 4 => a4 | _ => a5, fun k q h => ?_⟩
  match k, h with
  | 0, h => cases h; exact h0
  | 1, h => cases h; exact h1
  | 2, h => cases h; exact h3
  | 3, h => cases h; exact h4
  | 4, h => cases h; exact h5
  | n + 5, h => simp [gtys] at h
theorem gisref {t : Term} {args : Array Value} {s : State} (h : (Cond.isRef t).before args s = true) : t.eval args s none [] s = some .null ∨ ∃ a : Nat, t.eval args s none [] s = some (.ref a) := by
  simp only [Cond.before, Cond.holds, Cond.value] at h
  cases hv : t.eval args s none [] s with
  | none => rw [hv] at h; simp at h
  | some v =>
    rw [hv] at h
    cases v with
    | ref a => exact Or.inr ⟨a, rfl⟩
    | null => exact Or.inl rfl
    | _ => simp at h
theorem gexref {t : Term} {args : Array Value} {s : State} {C : String} (h : (Cond.exactly t C).before args s = true) : ∃ a : Nat, t.eval args s none [] s = some (.ref a) := by
  simp only [Cond.before, Cond.holds, Cond.value] at h
  cases hv : t.eval args s none [] s with
  | none => rw [hv] at h; simp at h
  | some v =>
    rw [hv] at h
    cases v with
    | ref a => exact ⟨a, rfl⟩
    | _ => cases hc : s.vm.findClass C <;> simp [hc] at h
theorem gflat {L : List Cond} {n : Nat} {c : Cond} (h : L[n]? = some c) : c ∈ L := List.mem_of_getElem? h
theorem gEntry {s : State} {b L : Nat} {xs : Nat → Int32} (htb : ∀ w ∈ lw_tbl, w.before #[Value.ref b] s = true) (hX : va_X b L xs s s.heap) (hbl : b < s.heap.size) (hgv : (Jvm.Cond.and given_1 narrow_1).before #[Value.ref b] s = true) : ∃ (ad : gNm → Nat) (fm : Option gNm), ad (0, 0) = b ∧ (fm = none ∨ fm = some (4, 0)) ∧ gEx (fun q => s.heap.size ≤ q) ad (gw0 L xs fm) s := by
  have hts : ∀ w ∈ gWS, w.before #[Value.ref b] s = true := fun w h => htb w (List.mem_filter.mp h).1
  have hs := flat_of_before _ hgv
  have hA : ∀ a : Nat, a < s.heap.size → ¬ (fun q : Nat => s.heap.size ≤ q) a := fun a h => Nat.not_le.mpr h
  have hel : ∀ (n : Nat) (t : Term) (z : Int32), (flatC (Jvm.Cond.and given_1 narrow_1))[n]? = some (Cond.eq t (.int z)) → t.eval #[Value.ref b] s none [] s = some (.int z) := fun n t z h => va_eqt (hs _ (gflat h))
  obtain ⟨t1, e1, hT1⟩ := va_Tof (tm := .static "PassedDark$Course" "WORDS" "[I") (ty := .int) (N := 3) (f := fun j => .int (([3, 125, 157] : List Int32).getD j 0)) (by decide) (hs _ (gflat (n := 10) (by decide +kernel))) (hel 11 _ 3 (by decide +kernel)) (fun j hj => hel (12 + j) _ _ (by
    have : j = 0 ∨ j = 1 ∨ j = 2 := by omega
    rcases this with rfl | rfl | rfl <;> decide +kernel)) hA
  have hby : (List.range 175).all (fun j => decide ((flatC (Jvm.Cond.and given_1 narrow_1))[19 + j]? = some (Cond.eq (.elem (.field (.string "PassedDark$Words" 11) "java/lang/String" "value" "[B") (.int (Int32.ofNat j))) (.int (gwI0.getD j 0))))) = true := by decide +kernel
  obtain ⟨t3, e3, hT3⟩ := va_Tof (tm := .field (.string "PassedDark$Words" 11) "java/lang/String" "value" "[B") (ty := .byte) (N := 175) (f := fun j => .int (gwI0.getD j 0)) (by decide) (hs _ (gflat (n := 17) (by decide +kernel))) (hel 18 _ 175 (by decide +kernel)) (fun j hj => hel (19 + j) _ _ (of_decide_eq_true (List.all_eq_true.mp hby j (List.mem_range.mpr hj)))) hA
  obtain ⟨t2, e2⟩ : ∃ t2 : Nat, (Term.string "PassedDark$Words" 11).eval #[Value.ref b] s none [] s = some (.ref t2) := gexref (C := "java/lang/String") (hs _ (gflat (n := 15) (by decide +kernel)))
  have hco := hel 16 (.field (.string "PassedDark$Words" 11) "java/lang/String" "coder" "B") 0 (by decide +kernel)
  have hcs := hel 4 (.static "java/lang/String" "COMPACT_STRINGS" "Z") 1 (by decide +kernel)
  have hf : ∃ (t4 : Nat) (q : Option gNm), (Term.static "jdk/internal/util/Preconditions" "SIOOBE_FORMATTER" "Ljava/util/function/BiFunction;").eval #[Value.ref b] s none [] s = some (va_rf (q.map fun _ => t4)) ∧ (q = none ∨ q = some (4, 0)) := by
    rcases gisref (t := .static "jdk/internal/util/Preconditions" "SIOOBE_FORMATTER" "Ljava/util/function/BiFunction;") (hs _ (gflat (n := 5) (by decide +kernel))) with h | ⟨t4, h⟩
    · exact ⟨0, none, h, Or.inl rfl⟩
    · exact ⟨t4, some (4, 0), h, Or.inr rfl⟩
  obtain ⟨t4, q, e4, hq⟩ := hf
  refine ⟨fun n => match n with | (0, _) => b | (1, _) => t1 | (2, _) => t2 | (3, _) => t3 | (4, _) => t4 | _ => 0, q, rfl, hq, fun k t len hk => ?_, fun e v he => ?_, fun e q v he => ?_, va_Oof (hs _ (gflat (n := 15) (by decide +kernel))) e2 hA, ⟨"hour mile strength light pace handed run far number care passed lit from not all or and min max course bearer at house dark wanes takes trip first last often total most least ", vk_R.of (htb _ (gtk_in (k := 2) (by decide) (gflat (n := 234) (by decide +kernel)))) e2⟩, fun a i x h hm => va_Nw.of rfl (htb _ (List.mem_filter.mp hm).1), ?_, fun r hr => ?_⟩
  · unfold gext at hk
    split at hk <;> cases hk
    · exact gX_T hX (hA b hbl)
    · exact hT1
    · exact hT3
  · unfold gstat at he
    split at he <;> cases he
    · exact va_Zof (htb _ (gtk_in (k := 3) (by decide) (gflat (n := 87) (by decide +kernel)))) (hts _ (gI_mem (p := (1, 11)) (by decide +kernel))) e1 hA
    · exact va_Zof (htb _ (gtk_in (k := 3) (by decide) (gflat (n := 4) (by decide +kernel)))) (hts _ (gI_mem (p := (1, 14)) (by decide +kernel))) hcs hA
  · unfold gexf at he
    split at he <;> cases he
    · exact vk_OFof e2 e3 hA
    · exact vk_OFof e2 hco hA
  · have e5 : gcv (fun n => match n with | (0, _) => b | (1, _) => t1 | (2, _) => t2 | (3, _) => t3 | (4, _) => t4 | _ => 0) (.inr (.inr q)) = va_rf (q.map fun _ => t4) := by
      rcases hq with rfl | rfl <;> rfl
    show va_Z _ _ _ (gcv _ (.inr (.inr q))) _ _ _
    rw [e5]
    exact va_Zof (htb _ (gtk_in (k := 3) (by decide) (gflat (n := 20) (by decide +kernel)))) (hts _ (gI_mem (p := (1, 16)) (by decide +kernel))) e4 hA
  · have hr : q = some r := hr
    rcases hq with rfl | rfl
    · cases hr
    · cases hr
      decide
/-- the walk of the law's body, out of a run of the small machine; 'hend': the law's own end -/
theorem gWhole {p : Program} {e : Env} {s : State} {m : MethodId} {below : List Frame} {meth : Method} {c : Code} (l : Launch) {b L : Nat} {xs : Nat → Int32} {Q : State → Prop} (C0 : lw_At p s m meth c b L xs)
    (hrun : ∀ fm : Option gNm, fm = none ∨ fm = some (4, 0) → ∃ w' : gW, gFine 1000 0 0 [some (.inr (.inr (some (0, 0)))), none, none, none] [] (gw0 L xs fm) (some (.inl 1)) w' ∧ w'.1 ≤ 600000 ∧ gsz w' ≤ 7302250)
    (hend : ∀ (H : Heap) (pc : Nat) (ls : Array Slot), decode code pc = .ok (.ireturn, 1) → W p l e room_1 s m #[Value.ref b] below meth c H [] 600000 7302250 Q (F0 m pc ls [.int 1])) :
    W p l e room_1 s m #[Value.ref b] below meth c s.heap [] 0 0 Q (entryFrame m ([Value.ref b] : List Value).toArray 4) := by
  obtain ⟨hx, hb, hr, hml, hown, htb, hX, hbl, hlocks, hgv⟩ := C0
  obtain ⟨ad, fm, had, hfm, hE⟩ := gEntry htb hX hbl hgv
  have hts : ∀ w ∈ gWS, w.before #[Value.ref b] s = true := fun w h => htb w (List.mem_filter.mp h).1
  obtain ⟨D, hKn⟩ := gKnown hts
  obtain ⟨dA, hKa⟩ := gArrs hts
  obtain ⟨w', ⟨f1, f2, f3, f4, f5⟩, hc, hz⟩ := hrun fm hfm
  have hl := gLv_entry ad (as := [.inr (.inr (some (0, 0)))]) (n := 4) (by decide)
  have e0 : ([.inr (.inr (some (0, 0)))] : List gV).map (gcv ad) = [Value.ref b] := by
    show [va_rf (some (ad (0, 0)))] = _
    rw [had]
    rfl
  rw [e0] at hl
  rw [lg_entry_eq]
  have hs0 : gsz (gw0 L xs fm) = 0 := rfl
  refine f5 ⟨hx, hb, hml, hr, hown, hts, hlocks, fun h => absurd h (by decide)⟩ D dA (fun q => s.heap.size ≤ q) ad _ s.heap [] 0 0 Q hl rfl (fun v hv => by cases hv) (fun i v hv r hrr => ?_) ⟨⟨hKn, hKa⟩, (fun k q h => by cases h), ⟨(fun i j p q h => by cases h), (fun k q h => by cases h)⟩, hE, fun k n hk => absurd hk (Nat.not_lt_zero _), va_S.rf, fun q h => h⟩ (by decide) (by decide) ?_ ?_ ?_
  · match i, hv with
    | 0, hv => cases hv; cases hrr; exact Or.inl (by decide)
    | 1, hv => cases hv
    | 2, hv => cases hv
    | 3, hv => cases hv
    | i + 4, hv => cases hv
  · show 0 + (w'.1 - 0) ≤ 600000
    omega
  · rw [hs0]
    show 0 + (gsz w' - 0) ≤ 7302250
    omega
  · intro ad' H' locs' pc' ls' ins ha hrv hI hd hret
    obtain ⟨rfl, -⟩ := hret
    refine va_forget (fun q hq => hI.2.2.2.2.2.1.2.2 q hq) ?_
    refine W.widen (k := 600000) (n := 7302250) (by show 0 + (w'.1 - 0) ≤ _; omega) (by rw [hs0]; omega) ?_
    exact hend H' pc' ls' hd
