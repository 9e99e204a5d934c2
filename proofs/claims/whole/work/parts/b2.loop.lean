/-! The law: how it begins, its loop. -/
theorem gCd_of {H : Nat → Int32} : ∀ (l : List Int) (a : Nat), (∀ k, k < l.length → (H (a + k)).toInt = l.getD k 0) → gCd H id a l
  | [], _, _ => trivial
  | c :: cs, a, h => ⟨h 0 (Nat.zero_lt_succ _), gCd_of cs (a + 1) fun k hk => by have := h (k + 1) (Nat.succ_lt_succ hk); rw [show a + 1 + k = a + (k + 1) by omega]; exact this⟩
theorem words_tbl : ∀ i, i < 52 → ∀ j, j < 9 → j < (wOf i).length → (gI1 (fun _ => 0) 53 i j).toInt = (wOf i).getD j 0 := by decide +kernel
theorem string_tbl : ∀ k, k < 175 → (gI1 (fun _ => 0) 3 0 k).toInt = (gFlat gWL).getD k 0 := by decide +kernel
theorem gInit (xs : Nat → Int32) (fm : Option gNm) : gInv (gI1 xs) gJ1 (0, fm) := by
  refine ⟨fun _ => 0, 0, fun _ => 0, fun _ => 0, 0, 0, -1, 1, ⟨⟨by omega, fun j hj => absurd hj (by omega)⟩, by omega, by omega, by omega⟩, ?_, ?_, Or.inr ⟨fun _ => 0, ?_, ?_⟩⟩
  · exact ⟨⟨⟨rfl, fun j hj => absurd hj (by omega)⟩, fun j hj => absurd hj (by omega)⟩, fun k _ => rfl, ⟨rfl, fun j hj => absurd hj (by omega)⟩, ⟨rfl, rfl⟩, rfl, Nat.zero_le _, fun f _ => rfl, gCd_of _ _ fun k hk => by
      rw [wl_tbl.2] at hk
      rw [Nat.zero_add]
      exact string_tbl k hk⟩
  · exact ⟨⟨rfl, fun j hj => absurd hj (by omega)⟩, fun k _ => rfl, ⟨rfl, fun j hj => absurd hj (by omega)⟩, ⟨rfl, rfl⟩, rfl, fun i hi j hj => words_tbl i hi j (by have := (wOf_len i hi).2.1; omega) hj, rfl⟩
  · exact ⟨rfl, rfl, fun j hj => absurd hj (by omega), rfl, Nat.zero_le _, 0, by decide, rfl, trivial⟩
  · exact ⟨⟨rfl, rfl, rfl, rfl, rfl, rfl, rfl, rfl, rfl, rfl⟩, 0, by decide, rfl⟩
theorem w_all {d S : Nat} {Q : Option gV → gW → Prop} (hS : S ≤ 3072) (hQ : ∀ (I : Nat → Nat → Nat → Int32) J h, Q (some (.inl 1)) (gwd S I J h)) : ∀ (m i : Nat) (a3 : Int32) (I : Nat → Nat → Nat → Int32) (J : Nat → Nat → Nat → Int64) (h : Nat × Option gNm), a3.toInt = i → i ≤ 4000 → S < i + m → gInv I J h → (gq (d + 90) 0 18 [some (.inr (.inr (some (0, 0)))), some (.inr (.inr (some (10, 0)))), some (.inr (.inr (some (50, 0)))), some (.inl (a3))] [] (gwd S I J h) Q)
  | 0, i, a3, I, J, h, ha, hi, hm, hI => by
    have e6 : (6 : Int32).toInt = 6 := rfl
    have eS : (Int32.ofNat S).toInt = S := zi_i (by omega)
    rw [gb_0_18, if_pos (by rw [z_lt, z_sub (by omega) (by omega)]; omega), gb_0_959]
    exact hQ I J h
  | m + 1, i, a3, I, J, h, ha, hi, hm, hI => by
    have e6 : (6 : Int32).toInt = 6 := rfl
    have eS : (Int32.ofNat S).toInt = S := zi_i (by omega)
    by_cases w : (S : Int) - 6 < i
    · rw [gb_0_18, if_pos (by rw [z_lt, z_sub (by omega) (by omega)]; omega), gb_0_959]
      exact hQ I J h
    rw [gb_0_18, if_neg (by rw [z_lt, z_sub (by omega) (by omega)]; omega), gb_0_27]
    refine ⟨g_in.mpr (by omega), ?_⟩
    have x1 : (1 : Int32).toInt = 1 := rfl
    have q1 : gin (a3 + 1) S = true := g_in.mpr (by rw [z_add (by omega) (by omega)]; omega)
    have x2 : (2 : Int32).toInt = 2 := rfl
    have q2 : gin (a3 + 2) S = true := g_in.mpr (by rw [z_add (by omega) (by omega)]; omega)
    have x3 : (3 : Int32).toInt = 3 := rfl
    have q3 : gin (a3 + 3) S = true := g_in.mpr (by rw [z_add (by omega) (by omega)]; omega)
    have x4 : (4 : Int32).toInt = 4 := rfl
    have q4 : gin (a3 + 4) S = true := g_in.mpr (by rw [z_add (by omega) (by omega)]; omega)
    have x5 : (5 : Int32).toInt = 5 := rfl
    have q5 : gin (a3 + 5) S = true := g_in.mpr (by rw [z_add (by omega) (by omega)]; omega)
    have K : ∀ (I' : Nat → Nat → Nat → Int32) (J' : Nat → Nat → Nat → Int64) (h' : Nat × Option gNm), gInv I' J' h' → (gq (d + 90) 0 953 [some (.inr (.inr (some (0, 0)))), some (.inr (.inr (some (10, 0)))), some (.inr (.inr (some (50, 0)))), some (.inl (a3))] [] (gwd S I' J' h') Q) := fun I1 J1 h1 hI1 => by
      rw [gb_0_953]
      exact w_all hS hQ m (i + 6) (a3 + 6) I1 J1 h1 (by rw [z_add (by omega) (by omega)]; omega) (by omega) (by omega) hI1
    rw [gb_0_30]
    generalize (I 0 0 a3.toNatClampNeg &&& 31 : Int32) = z
    by_cases c0 : z = 0
    · rw [if_pos c0]; exact w_0 q1 q2 q3 q4 q5 hI K
    rw [if_neg c0]
    by_cases c1 : z = 1
    · rw [if_pos c1]; exact w_1 q1 hI K
    rw [if_neg c1]
    by_cases c2 : z = 2
    · rw [if_pos c2]; exact w_2 hI K
    rw [if_neg c2]
    by_cases c3 : z = 3
    · rw [if_pos c3]; exact w_3 q1 hI K
    rw [if_neg c3]
    by_cases c4 : z = 4
    · rw [if_pos c4]; exact w_4 q1 hI K
    rw [if_neg c4]
    by_cases c5 : z = 5
    · rw [if_pos c5]; exact w_5 q1 q2 q3 hI K
    rw [if_neg c5]
    by_cases c6 : z = 6
    · rw [if_pos c6]; exact w_6 q1 q2 hI K
    rw [if_neg c6]
    by_cases c7 : z = 7
    · rw [if_pos c7]; exact w_7 q1 q2 hI K
    rw [if_neg c7]
    by_cases c8 : z = 8
    · rw [if_pos c8]; exact w_8 q1 q2 hI K
    rw [if_neg c8]
    by_cases c9 : z = 9
    · rw [if_pos c9]; exact w_9 q1 q2 hI K
    rw [if_neg c9]
    by_cases c10 : z = 10
    · rw [if_pos c10]; exact w_10 q1 q2 hI K
    rw [if_neg c10]
    by_cases c11 : z = 11
    · rw [if_pos c11]; exact w_11 hI K
    rw [if_neg c11]
    by_cases c12 : z = 12
    · rw [if_pos c12]; exact w_12 hI K
    rw [if_neg c12]
    by_cases c13 : z = 13
    · rw [if_pos c13]; exact w_13 q1 q2 hI K
    rw [if_neg c13]
    by_cases c14 : z = 14
    · rw [if_pos c14]; exact w_14 q1 hI K
    rw [if_neg c14]
    by_cases c15 : z = 15
    · rw [if_pos c15]; exact w_15 hI K
    rw [if_neg c15]
    by_cases c16 : z = 16
    · rw [if_pos c16]; exact w_16 hI K
    rw [if_neg c16]
    by_cases c17 : z = 17
    · rw [if_pos c17]; exact w_17 hI K
    rw [if_neg c17]
    by_cases c18 : z = 18
    · rw [if_pos c18]; exact w_18 q1 hI K
    rw [if_neg c18]
    by_cases c19 : z = 19
    · rw [if_pos c19]; exact w_19 q1 hI K
    rw [if_neg c19]
    by_cases c20 : z = 20
    · rw [if_pos c20]; exact w_20 q1 q2 hI K
    rw [if_neg c20]
    by_cases c21 : z = 21
    · rw [if_pos c21]; exact w_21 q1 q2 hI K
    rw [if_neg c21]
    by_cases c22 : z = 22
    · rw [if_pos c22]; exact w_22 q1 hI K
    rw [if_neg c22]
    by_cases c23 : z = 23
    · rw [if_pos c23]; exact w_23 q1 hI K
    rw [if_neg c23]
    by_cases c24 : z = 24
    · rw [if_pos c24]; exact w_24 q1 hI K
    rw [if_neg c24]
    by_cases c25 : z = 25
    · rw [if_pos c25]; exact w_25 hI K
    rw [if_neg c25]
    by_cases c26 : z = 26
    · rw [if_pos c26]; exact w_26 q1 hI K
    rw [if_neg c26]
    by_cases c27 : z = 27
    · rw [if_pos c27]; exact w_27 hI K
    rw [if_neg c27]
    by_cases c28 : z = 28
    · rw [if_pos c28]; exact w_28 hI K
    rw [if_neg c28]
    by_cases c29 : z = 29
    · rw [if_pos c29]; exact w_29 q1 hI K
    rw [if_neg c29]
    by_cases c30 : z = 30
    · rw [if_pos c30]; exact w_30 hI K
    rw [if_neg c30]
    by_cases c31 : z = 31
    · rw [if_pos c31]; exact w_31 q1 hI K
    rw [if_neg c31]
    exact K I J h hI
theorem gLoop {S : Nat} {xs : Nat → Int32} (hS : S ≤ 3072) (fm : Option gNm) (hfm : fm = none ∨ fm = some (4, 0)) : gLoopOk S xs fm := w_all (d := 910) hS (fun I J h => ⟨rfl, rfl, rfl⟩) (S + 1) 0 0 (gI1 xs) gJ1 (0, fm) rfl (by omega) (by omega) (gInit xs fm)
