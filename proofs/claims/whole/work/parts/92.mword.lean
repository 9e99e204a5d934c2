/-! The model: which word is here, whether it is allowed; what ends with a part. -/
variable {d S : Nat} {h : Nat × Option gNm} {I : Nat → Nat → Nat → Int32} {J : Nat → Nat → Nat → Int64} {Q : Option gV → gW → Prop}
def lWh (tp : Nat → Int) (n : Nat) : lT → Int
  | .inl _ => -1
  | .inr (s, g) => if lKd tp n s g = -2 ∧ 0 ≤ wHere tp n s ∧ wHere tp n s ≤ 12 then wHere tp n s else -1
theorem lWh_is {tp : Nat → Int} {n k : Nat} {τ : lT} (hk : k ≤ 12) (h : lIs tp n τ k = true) : lWh tp n τ = k := by
  match τ, h with
  | .inr (s, g), h =>
    have h2 := lIs_iff.mp h
    have e : wHere tp n s = k := h2.2
    show (if lKd tp n s g = -2 ∧ 0 ≤ wHere tp n s ∧ wHere tp n s ≤ 12 then wHere tp n s else -1) = k
    rw [if_pos ⟨h2.1, by omega, by omega⟩, e]
theorem lWh_no {tp : Nat → Int} {n : Nat} {τ : lT} (h : ∀ k, k ≤ 12 → ¬ lIs tp n τ k = true) : lWh tp n τ = -1 := by
  match τ, h with
  | .inl b, h => rfl
  | .inr (s, g), h =>
    refine if_neg fun e => h (wHere tp n s).toNat (by omega) (lIs_iff.mpr ⟨e.1, ?_⟩)
    show wHere tp n s = _
    omega
theorem n_wordHere {tp : Nat → Int} {n : Nat} {τ : lT} (hx : mTx I tp n) (ht : mTk I tp n τ) (K : ∀ I' (x : Int32), (∀ k i j, ¬ ((k = 50 ∧ i = 0 ∧ j = 2)) → I' k i j = I k i j) → mTk I' tp n τ → mAt I' τ → x.toInt = lWh tp n τ → Q (some (.inl x)) (gwd S I' J h)) : (gq (d + 2) 255 0 [some (.inr (.inr (some (50, 0))))] [] (gwd S I J h) Q) := by
  have tx : ∀ (I' : Nat → Nat → Nat → Int32), (∀ k i j, ¬ ((k = 50 ∧ i = 0 ∧ j = 2)) → I' k i j = I k i j) → mTx I' tp n := fun I' hF => mTx_congr hx (fun j => hF _ _ _ (by omega)) (hF _ _ _ (by omega)) (fun i j => hF _ _ _ (by omega))
  have hF0 : (∀ k i j, ¬ ((k = 50 ∧ i = 0 ∧ j = 2)) → I k i j = I k i j) := fun _ _ _ _ => rfl
  rw [gb_255_0]
  refine n_here (i1 := 39) (by decide) (tx I hF0) ht fun I1 x2 hG1 ht1 hA1 hv1 => ?_
  have hF1 : (∀ k i j, ¬ ((k = 50 ∧ i = 0 ∧ j = 2)) → I1 k i j = I k i j) := fun k i j hn => by rw [hG1 _ _ _ hn, hF0 _ _ _ hn]
  rw [show mWx.getD 39 0 = 0 from rfl] at hv1
  rw [Option.toList_some, List.singleton_append, gb_255_8]
  by_cases w0 : lIs tp n τ 0 = true
  case pos =>
    rw [if_pos w0] at hv1
    rw [if_neg (by rw [hv1]; decide), gb_255_11]
    exact K I1 _ hF1 ht1 hA1 (by rw [lWh_is (by decide) w0]; rfl)
  rw [if_neg w0] at hv1
  rw [if_pos hv1]
  rw [gb_255_13]
  refine n_here (i1 := 40) (by decide) (tx I1 hF1) ht1 fun I2 x3 hG2 ht2 hA2 hv2 => ?_
  have hF2 : (∀ k i j, ¬ ((k = 50 ∧ i = 0 ∧ j = 2)) → I2 k i j = I k i j) := fun k i j hn => by rw [hG2 _ _ _ hn, hF1 _ _ _ hn]
  rw [show mWx.getD 40 0 = 1 from rfl] at hv2
  rw [Option.toList_some, List.singleton_append, gb_255_21]
  by_cases w1 : lIs tp n τ 1 = true
  case pos =>
    rw [if_pos w1] at hv2
    rw [if_neg (by rw [hv2]; decide), gb_255_24]
    exact K I2 _ hF2 ht2 hA2 (by rw [lWh_is (by decide) w1]; rfl)
  rw [if_neg w1] at hv2
  rw [if_pos hv2]
  rw [gb_255_26]
  refine n_here (i1 := 41) (by decide) (tx I2 hF2) ht2 fun I3 x4 hG3 ht3 hA3 hv3 => ?_
  have hF3 : (∀ k i j, ¬ ((k = 50 ∧ i = 0 ∧ j = 2)) → I3 k i j = I k i j) := fun k i j hn => by rw [hG3 _ _ _ hn, hF2 _ _ _ hn]
  rw [show mWx.getD 41 0 = 2 from rfl] at hv3
  rw [Option.toList_some, List.singleton_append, gb_255_34]
  by_cases w2 : lIs tp n τ 2 = true
  case pos =>
    rw [if_pos w2] at hv3
    rw [if_neg (by rw [hv3]; decide), gb_255_37]
    exact K I3 _ hF3 ht3 hA3 (by rw [lWh_is (by decide) w2]; rfl)
  rw [if_neg w2] at hv3
  rw [if_pos hv3]
  rw [gb_255_39]
  refine n_here (i1 := 42) (by decide) (tx I3 hF3) ht3 fun I4 x5 hG4 ht4 hA4 hv4 => ?_
  have hF4 : (∀ k i j, ¬ ((k = 50 ∧ i = 0 ∧ j = 2)) → I4 k i j = I k i j) := fun k i j hn => by rw [hG4 _ _ _ hn, hF3 _ _ _ hn]
  rw [show mWx.getD 42 0 = 3 from rfl] at hv4
  rw [Option.toList_some, List.singleton_append, gb_255_47]
  by_cases w3 : lIs tp n τ 3 = true
  case pos =>
    rw [if_pos w3] at hv4
    rw [if_neg (by rw [hv4]; decide), gb_255_50]
    exact K I4 _ hF4 ht4 hA4 (by rw [lWh_is (by decide) w3]; rfl)
  rw [if_neg w3] at hv4
  rw [if_pos hv4]
  rw [gb_255_52]
  refine n_here (i1 := 43) (by decide) (tx I4 hF4) ht4 fun I5 x6 hG5 ht5 hA5 hv5 => ?_
  have hF5 : (∀ k i j, ¬ ((k = 50 ∧ i = 0 ∧ j = 2)) → I5 k i j = I k i j) := fun k i j hn => by rw [hG5 _ _ _ hn, hF4 _ _ _ hn]
  rw [show mWx.getD 43 0 = 4 from rfl] at hv5
  rw [Option.toList_some, List.singleton_append, gb_255_60]
  by_cases w4 : lIs tp n τ 4 = true
  case pos =>
    rw [if_pos w4] at hv5
    rw [if_neg (by rw [hv5]; decide), gb_255_63]
    exact K I5 _ hF5 ht5 hA5 (by rw [lWh_is (by decide) w4]; rfl)
  rw [if_neg w4] at hv5
  rw [if_pos hv5]
  rw [gb_255_65]
  refine n_here (i1 := 44) (by decide) (tx I5 hF5) ht5 fun I6 x7 hG6 ht6 hA6 hv6 => ?_
  have hF6 : (∀ k i j, ¬ ((k = 50 ∧ i = 0 ∧ j = 2)) → I6 k i j = I k i j) := fun k i j hn => by rw [hG6 _ _ _ hn, hF5 _ _ _ hn]
  rw [show mWx.getD 44 0 = 5 from rfl] at hv6
  rw [Option.toList_some, List.singleton_append, gb_255_73]
  by_cases w5 : lIs tp n τ 5 = true
  case pos =>
    rw [if_pos w5] at hv6
    rw [if_neg (by rw [hv6]; decide), gb_255_76]
    exact K I6 _ hF6 ht6 hA6 (by rw [lWh_is (by decide) w5]; rfl)
  rw [if_neg w5] at hv6
  rw [if_pos hv6]
  rw [gb_255_78]
  refine n_here (i1 := 45) (by decide) (tx I6 hF6) ht6 fun I7 x8 hG7 ht7 hA7 hv7 => ?_
  have hF7 : (∀ k i j, ¬ ((k = 50 ∧ i = 0 ∧ j = 2)) → I7 k i j = I k i j) := fun k i j hn => by rw [hG7 _ _ _ hn, hF6 _ _ _ hn]
  rw [show mWx.getD 45 0 = 6 from rfl] at hv7
  rw [Option.toList_some, List.singleton_append, gb_255_86]
  by_cases w6 : lIs tp n τ 6 = true
  case pos =>
    rw [if_pos w6] at hv7
    rw [if_neg (by rw [hv7]; decide), gb_255_89]
    exact K I7 _ hF7 ht7 hA7 (by rw [lWh_is (by decide) w6]; rfl)
  rw [if_neg w6] at hv7
  rw [if_pos hv7]
  rw [gb_255_92]
  refine n_here (i1 := 46) (by decide) (tx I7 hF7) ht7 fun I8 x9 hG8 ht8 hA8 hv8 => ?_
  have hF8 : (∀ k i j, ¬ ((k = 50 ∧ i = 0 ∧ j = 2)) → I8 k i j = I k i j) := fun k i j hn => by rw [hG8 _ _ _ hn, hF7 _ _ _ hn]
  rw [show mWx.getD 46 0 = 7 from rfl] at hv8
  rw [Option.toList_some, List.singleton_append, gb_255_100]
  by_cases w7 : lIs tp n τ 7 = true
  case pos =>
    rw [if_pos w7] at hv8
    rw [if_neg (by rw [hv8]; decide), gb_255_103]
    exact K I8 _ hF8 ht8 hA8 (by rw [lWh_is (by decide) w7]; rfl)
  rw [if_neg w7] at hv8
  rw [if_pos hv8]
  rw [gb_255_106]
  refine n_here (i1 := 47) (by decide) (tx I8 hF8) ht8 fun I9 x10 hG9 ht9 hA9 hv9 => ?_
  have hF9 : (∀ k i j, ¬ ((k = 50 ∧ i = 0 ∧ j = 2)) → I9 k i j = I k i j) := fun k i j hn => by rw [hG9 _ _ _ hn, hF8 _ _ _ hn]
  rw [show mWx.getD 47 0 = 8 from rfl] at hv9
  rw [Option.toList_some, List.singleton_append, gb_255_114]
  by_cases w8 : lIs tp n τ 8 = true
  case pos =>
    rw [if_pos w8] at hv9
    rw [if_neg (by rw [hv9]; decide), gb_255_117]
    exact K I9 _ hF9 ht9 hA9 (by rw [lWh_is (by decide) w8]; rfl)
  rw [if_neg w8] at hv9
  rw [if_pos hv9]
  rw [gb_255_120]
  refine n_here (i1 := 48) (by decide) (tx I9 hF9) ht9 fun I10 x11 hG10 ht10 hA10 hv10 => ?_
  have hF10 : (∀ k i j, ¬ ((k = 50 ∧ i = 0 ∧ j = 2)) → I10 k i j = I k i j) := fun k i j hn => by rw [hG10 _ _ _ hn, hF9 _ _ _ hn]
  rw [show mWx.getD 48 0 = 9 from rfl] at hv10
  rw [Option.toList_some, List.singleton_append, gb_255_128]
  by_cases w9 : lIs tp n τ 9 = true
  case pos =>
    rw [if_pos w9] at hv10
    rw [if_neg (by rw [hv10]; decide), gb_255_131]
    exact K I10 _ hF10 ht10 hA10 (by rw [lWh_is (by decide) w9]; rfl)
  rw [if_neg w9] at hv10
  rw [if_pos hv10]
  rw [gb_255_134]
  refine n_here (i1 := 49) (by decide) (tx I10 hF10) ht10 fun I11 x12 hG11 ht11 hA11 hv11 => ?_
  have hF11 : (∀ k i j, ¬ ((k = 50 ∧ i = 0 ∧ j = 2)) → I11 k i j = I k i j) := fun k i j hn => by rw [hG11 _ _ _ hn, hF10 _ _ _ hn]
  rw [show mWx.getD 49 0 = 10 from rfl] at hv11
  rw [Option.toList_some, List.singleton_append, gb_255_142]
  by_cases w10 : lIs tp n τ 10 = true
  case pos =>
    rw [if_pos w10] at hv11
    rw [if_neg (by rw [hv11]; decide), gb_255_145]
    exact K I11 _ hF11 ht11 hA11 (by rw [lWh_is (by decide) w10]; rfl)
  rw [if_neg w10] at hv11
  rw [if_pos hv11]
  rw [gb_255_148]
  refine n_here (i1 := 50) (by decide) (tx I11 hF11) ht11 fun I12 x13 hG12 ht12 hA12 hv12 => ?_
  have hF12 : (∀ k i j, ¬ ((k = 50 ∧ i = 0 ∧ j = 2)) → I12 k i j = I k i j) := fun k i j hn => by rw [hG12 _ _ _ hn, hF11 _ _ _ hn]
  rw [show mWx.getD 50 0 = 11 from rfl] at hv12
  rw [Option.toList_some, List.singleton_append, gb_255_156]
  by_cases w11 : lIs tp n τ 11 = true
  case pos =>
    rw [if_pos w11] at hv12
    rw [if_neg (by rw [hv12]; decide), gb_255_159]
    exact K I12 _ hF12 ht12 hA12 (by rw [lWh_is (by decide) w11]; rfl)
  rw [if_neg w11] at hv12
  rw [if_pos hv12]
  rw [gb_255_162]
  refine n_here (i1 := 51) (by decide) (tx I12 hF12) ht12 fun I13 x14 hG13 ht13 hA13 hv13 => ?_
  have hF13 : (∀ k i j, ¬ ((k = 50 ∧ i = 0 ∧ j = 2)) → I13 k i j = I k i j) := fun k i j hn => by rw [hG13 _ _ _ hn, hF12 _ _ _ hn]
  rw [show mWx.getD 51 0 = 12 from rfl] at hv13
  rw [Option.toList_some, List.singleton_append, gb_255_170]
  by_cases w12 : lIs tp n τ 12 = true
  case pos =>
    rw [if_pos w12] at hv13
    rw [if_neg (by rw [hv13]; decide), gb_255_173]
    exact K I13 _ hF13 ht13 hA13 (by rw [lWh_is (by decide) w12]; rfl)
  rw [if_neg w12] at hv13
  rw [if_pos hv13]
  rw [gb_255_176, gb_255_177]
  refine K I13 _ hF13 ht13 hA13 ?_
  rw [lWh_no fun k hk => ?_]; · rfl
  have e : k = 0 ∨ k = 1 ∨ k = 2 ∨ k = 3 ∨ k = 4 ∨ k = 5 ∨ k = 6 ∨ k = 7 ∨ k = 8 ∨ k = 9 ∨ k = 10 ∨ k = 11 ∨ k = 12 := by omega
  rcases e with rfl | rfl | rfl | rfl | rfl | rfl | rfl | rfl | rfl | rfl | rfl | rfl | rfl
  · exact w0
  · exact w1
  · exact w2
  · exact w3
  · exact w4
  · exact w5
  · exact w6
  · exact w7
  · exact w8
  · exact w9
  · exact w10
  · exact w11
  · exact w12
def alQu (w : Nat) : Bool := decide (w < 3 ∨ 6 < w)
/-- the words allowed in a text of a kind -/
def alT (t : Nat) : Nat → Bool := if t = 0 then alLi else if t = 1 then alWn else if t = 2 then alTk else alQu
theorem al_tbl0 : ∀ k, k ≤ 12 → alT 0 k = decide (k < 2) := by decide +kernel
theorem al_tbl1 : ∀ k, k ≤ 12 → alT 1 k = decide (k = 0 ∨ 2 ≤ k ∧ k ≤ 6) := by decide +kernel
theorem al_tbl2 : ∀ k, k ≤ 12 → alT 2 k = decide (k = 0 ∨ 2 ≤ k ∧ k ≤ 4 ∨ k = 7) := by decide +kernel
theorem al_tbl3 : ∀ k, k ≤ 12 → alT 3 k = decide (k < 3 ∨ 6 < k) := by decide +kernel
theorem n_allowed {a1 : Int32} {t k : Nat} (ht : (I 50 0 49).toInt = t) (ht3 : t ≤ 3) (h1 : a1.toInt = k) (hk : k ≤ 12) (K : ∀ x : Int32, x = (if alT t k = true then 1 else 0) → Q (some (.inl x)) (gwd S I J h)) : (gq (d + 1) 174 0 [some (.inr (.inr (some (50, 0)))), some (.inl (a1))] [] (gwd S I J h) Q) := by
  have e0 : (0 : Int32).toInt = 0 := rfl
  have e1 : (1 : Int32).toInt = 1 := rfl
  have e2 : (2 : Int32).toInt = 2 := rfl
  have e3 : (3 : Int32).toInt = 3 := rfl
  have e6 : (6 : Int32).toInt = 6 := rfl
  have e7 : (7 : Int32).toInt = 7 := rfl
  have l2 : (2 : Int64).toInt = 2 := rfl
  have l4 : (4 : Int64).toInt = 4 := rfl
  have l6 : (6 : Int64).toInt = 6 := rfl
  have et : t = 0 ∨ t = 1 ∨ t = 2 ∨ t = 3 := by omega
  have ez : ∀ {v : Int32}, I 50 0 49 = v ↔ (t : Int) = v.toInt := fun {v} => by rw [z_eq, ht]
  have ea : ∀ {v : Int32}, a1 = v ↔ (k : Int) = v.toInt := fun {v} => by rw [z_eq, h1]
  rw [gb_174_0]
  rcases et with rfl | rfl | rfl | rfl
  · rw [if_pos (ez.mpr (by rw [e0]; rfl)), gb_174_32]
    rw [al_tbl0 k hk] at K
    by_cases w : k < 2
    · rw [if_neg (by rw [z_le]; omega), gb_174_37, gb_174_42]
      exact ⟨rfl, K 1 (by rw [decide_eq_true w, if_pos rfl])⟩
    · rw [if_pos (by rw [z_le]; omega), gb_174_41, gb_174_42]
      exact ⟨rfl, K 0 (by rw [decide_eq_false w, if_neg Bool.false_ne_true])⟩
  · rw [if_neg (by rw [ez, e0]; omega), if_pos (ez.mpr (by rw [e1]; rfl)), gb_174_43]
    rw [al_tbl1 k hk] at K
    have yes : k = 0 ∨ 2 ≤ k ∧ k ≤ 6 → (gq (d + 1) 174 61 [some (.inr (.inr (some (50, 0)))), some (.inl (a1))] [] (gwd S I J h) Q) := fun w => by
      rw [gb_174_61, gb_174_66]
      exact ⟨rfl, K 1 (by rw [decide_eq_true w, if_pos rfl])⟩
    by_cases w0 : k = 0
    · rw [if_pos (ea.mpr (by rw [e0]; omega))]; exact yes (Or.inl w0)
    rw [if_neg (by rw [ea, e0]; omega), gb_174_47, n_isIn, Option.toList_some, List.singleton_append, gb_174_58, z_64, h1, l2, l6]
    by_cases w1 : 2 ≤ k ∧ k ≤ 6
    · rw [if_neg (by rw [zb_0]; exact fun q => q (by omega))]; exact yes (Or.inr w1)
    · rw [if_pos (by rw [zb_0]; omega), gb_174_65, gb_174_66]
      exact ⟨rfl, K 0 (by rw [decide_eq_false (by omega), if_neg Bool.false_ne_true])⟩
  · rw [if_neg (by rw [ez, e0]; omega), if_neg (by rw [ez, e1]; omega), if_pos (ez.mpr (by rw [e2]; rfl)), gb_174_67]
    rw [al_tbl2 k hk] at K
    have yes : k = 0 ∨ 2 ≤ k ∧ k ≤ 4 ∨ k = 7 → (gq (d + 1) 174 91 [some (.inr (.inr (some (50, 0)))), some (.inl (a1))] [] (gwd S I J h) Q) := fun w => by
      rw [gb_174_91, gb_174_96]
      exact ⟨rfl, K 1 (by rw [decide_eq_true w, if_pos rfl])⟩
    by_cases w0 : k = 0
    · rw [if_pos (ea.mpr (by rw [e0]; omega))]; exact yes (Or.inl w0)
    rw [if_neg (by rw [ea, e0]; omega), gb_174_71, n_isIn, Option.toList_some, List.singleton_append, gb_174_82, z_64, h1, l2, l4]
    by_cases w1 : 2 ≤ k ∧ k ≤ 4
    · rw [if_neg (by rw [zb_0]; exact fun q => q (by omega))]; exact yes (Or.inr (Or.inl w1))
    rw [if_pos (by rw [zb_0]; omega), gb_174_85]
    by_cases w2 : k = 7
    · rw [if_pos (ea.mpr (by rw [e7]; omega))]; exact yes (Or.inr (Or.inr w2))
    · rw [if_neg (by rw [ea, e7]; omega), gb_174_95, gb_174_96]
      exact ⟨rfl, K 0 (by rw [decide_eq_false (by omega), if_neg Bool.false_ne_true])⟩
  · rw [if_neg (by rw [ez, e0]; omega), if_neg (by rw [ez, e1]; omega), if_neg (by rw [ez, e2]; omega), gb_174_97]
    rw [al_tbl3 k hk] at K
    have yes : k < 3 ∨ 6 < k → (gq (d + 1) 174 108 [some (.inr (.inr (some (50, 0)))), some (.inl (a1))] [] (gwd S I J h) Q) := fun w => by
      rw [gb_174_108, gb_174_113]
      exact ⟨rfl, K 1 (by rw [decide_eq_true w, if_pos rfl])⟩
    by_cases w0 : k < 3
    · rw [if_pos (by rw [z_lt]; omega)]; exact yes (Or.inl w0)
    rw [if_neg (by rw [z_lt]; omega), gb_174_102]
    by_cases w1 : k ≤ 6
    · rw [if_pos (by rw [z_le]; omega), gb_174_112, gb_174_113]
      exact ⟨rfl, K 0 (by rw [decide_eq_false (by omega), if_neg Bool.false_ne_true])⟩
    · rw [if_neg (by rw [z_le]; omega)]; exact yes (Or.inr (by omega))
/-- the word here, if it is one of these -/
def lWof (tp : Nat → Int) (n t : Nat) (τ : lT) (lo hi : Int) : Int := if lo ≤ lWh tp n τ ∧ lWh tp n τ < hi ∧ alT t (lWh tp n τ).toNat = true then lWh tp n τ else -1
theorem lWh_r {tp : Nat → Int} {n : Nat} {τ : lT} : -1 ≤ lWh tp n τ ∧ lWh tp n τ ≤ 12 := by
  match τ with
  | .inl b => exact ⟨Int.le_refl _, by show (-1 : Int) ≤ 12; omega⟩
  | .inr (s, g) =>
    show -1 ≤ (if lKd tp n s g = -2 ∧ 0 ≤ wHere tp n s ∧ wHere tp n s ≤ 12 then wHere tp n s else -1) ∧ (if lKd tp n s g = -2 ∧ 0 ≤ wHere tp n s ∧ wHere tp n s ≤ 12 then wHere tp n s else -1) ≤ 12
    split <;> omega
theorem n_wordOf {tp : Nat → Int} {n t : Nat} {τ : lT} {a1 a2 : Int32} {lo hi : Int} {x3 : Option gV} (hx : mTx I tp n) (ht : mTk I tp n τ) (h49 : (I 50 0 49).toInt = t) (ht3 : t ≤ 3) (h1 : a1.toInt = lo) (h2 : a2.toInt = hi) (h0 : 0 ≤ lo) (K : ∀ I' (x : Int32), (∀ k i j, ¬ ((k = 50 ∧ i = 0 ∧ j = 2)) → I' k i j = I k i j) → mTk I' tp n τ → mAt I' τ → x.toInt = lWof tp n t τ lo hi → Q (some (.inl x)) (gwd S I' J h)) : (gq (d + 3) 256 0 [some (.inr (.inr (some (50, 0)))), some (.inl (a1)), some (.inl (a2)), x3] [] (gwd S I J h) Q) := by
  have hr := lWh_r (tp := tp) (n := n) (τ := τ)
  rw [gb_256_0]
  refine n_wordHere hx ht fun I1 x hF1 ht1 hA1 hv => ?_
  rw [Option.toList_some, List.singleton_append, gb_256_4]
  have no : ¬ (lo ≤ lWh tp n τ ∧ lWh tp n τ < hi ∧ alT t (lWh tp n τ).toNat = true) → (gq (d + 3) 256 27 [some (.inr (.inr (some (50, 0)))), some (.inl (a1)), some (.inl (a2)), some (.inl (x))] [] (gwd S I1 J h) Q) := fun hno => by
    rw [gb_256_27, gb_256_28]
    exact K I1 _ hF1 ht1 hA1 (by unfold lWof; rw [if_neg hno]; rfl)
  by_cases w1 : lo ≤ lWh tp n τ
  case neg => rw [if_pos (by rw [z_lt]; omega)]; exact no (fun q => w1 q.1)
  rw [if_neg (by rw [z_lt]; omega), gb_256_10]
  by_cases w2 : lWh tp n τ < hi
  case neg => rw [if_pos (by rw [z_le]; omega)]; exact no (fun q => w2 q.2.1)
  rw [if_neg (by rw [z_le]; omega), gb_256_15]
  refine n_allowed (t := t) (k := (lWh tp n τ).toNat) (by rw [hF1 _ _ _ (by omega)]; exact h49) ht3 (by omega) (by omega) fun y hy => ?_
  rw [Option.toList_some, List.singleton_append, gb_256_20]
  by_cases w3 : alT t (lWh tp n τ).toNat = true
  case neg => rw [if_neg w3] at hy; rw [if_pos hy]; exact no (fun q => w3 q.2.2)
  rw [if_pos w3] at hy
  rw [if_neg (by rw [hy]; decide), gb_256_23, gb_256_28]
  exact K I1 _ hF1 ht1 hA1 (by unfold lWof; rw [if_pos ⟨w1, w2, w3⟩]; exact hv)
theorem n_asksW {tp : Nat → Int} {n k : Nat} {τ : lT} {a1 : Int32} (hx : mTx I tp n) (ht : mTk I tp n τ) (h1 : a1.toInt = k) (hk : k ≤ 12) (K : ∀ (I' : Nat → Nat → Nat → Int32), (∀ k i j, ¬ ((k = 50 ∧ i = 0 ∧ (j = 2 ∨ j = 4 ∨ j = 5 ∨ j = 6))) → I' k i j = I k i j) → mTk I' tp n (lAskW tp n τ k) → Q none (gwd S I' J h)) : (gq (d + 4) 257 0 [some (.inr (.inr (some (50, 0)))), some (.inl (a1))] [] (gwd S I J h) Q) := by
  have ea : ∀ {v : Int32}, a1 = v ↔ (k : Int) = v.toInt := fun {v} => by rw [z_eq, h1]
  have e0 : (0 : Int32).toInt = 0 := rfl
  have e1 : (1 : Int32).toInt = 1 := rfl
  have e2 : (2 : Int32).toInt = 2 := rfl
  have e3 : (3 : Int32).toInt = 3 := rfl
  have e4 : (4 : Int32).toInt = 4 := rfl
  have e5 : (5 : Int32).toInt = 5 := rfl
  have e6 : (6 : Int32).toInt = 6 := rfl
  have e7 : (7 : Int32).toInt = 7 := rfl
  have e8 : (8 : Int32).toInt = 8 := rfl
  have e9 : (9 : Int32).toInt = 9 := rfl
  have e10 : (10 : Int32).toInt = 10 := rfl
  have e11 : (11 : Int32).toInt = 11 := rfl
  have e : k = 0 ∨ k = 1 ∨ k = 2 ∨ k = 3 ∨ k = 4 ∨ k = 5 ∨ k = 6 ∨ k = 7 ∨ k = 8 ∨ k = 9 ∨ k = 10 ∨ k = 11 ∨ k = 12 := by omega
  rw [gb_257_0]
  rcases e with rfl | rfl | rfl | rfl | rfl | rfl | rfl | rfl | rfl | rfl | rfl | rfl | rfl
  · rw [if_pos (ea.mpr (by rw [e0]; rfl)), gb_257_64]
    refine n_asks (i1 := 39) (by decide) hx ht fun I1 hF1 ht1 => ?_
    rw [Option.toList_none, List.nil_append, gb_257_72, gb_257_204]
    exact K I1 hF1 ht1
  · rw [if_neg (by rw [ea, e0]; omega), if_pos (ea.mpr (by rw [e1]; rfl)), gb_257_75]
    refine n_asks (i1 := 40) (by decide) hx ht fun I1 hF1 ht1 => ?_
    rw [Option.toList_none, List.nil_append, gb_257_83, gb_257_204]
    exact K I1 hF1 ht1
  · rw [if_neg (by rw [ea, e0]; omega), if_neg (by rw [ea, e1]; omega), if_pos (ea.mpr (by rw [e2]; rfl)), gb_257_86]
    refine n_asks (i1 := 41) (by decide) hx ht fun I1 hF1 ht1 => ?_
    rw [Option.toList_none, List.nil_append, gb_257_94, gb_257_204]
    exact K I1 hF1 ht1
  · rw [if_neg (by rw [ea, e0]; omega), if_neg (by rw [ea, e1]; omega), if_neg (by rw [ea, e2]; omega), if_pos (ea.mpr (by rw [e3]; rfl)), gb_257_97]
    refine n_asks (i1 := 42) (by decide) hx ht fun I1 hF1 ht1 => ?_
    rw [Option.toList_none, List.nil_append, gb_257_105, gb_257_204]
    exact K I1 hF1 ht1
  · rw [if_neg (by rw [ea, e0]; omega), if_neg (by rw [ea, e1]; omega), if_neg (by rw [ea, e2]; omega), if_neg (by rw [ea, e3]; omega), if_pos (ea.mpr (by rw [e4]; rfl)), gb_257_108]
    refine n_asks (i1 := 43) (by decide) hx ht fun I1 hF1 ht1 => ?_
    rw [Option.toList_none, List.nil_append, gb_257_116, gb_257_204]
    exact K I1 hF1 ht1
  · rw [if_neg (by rw [ea, e0]; omega), if_neg (by rw [ea, e1]; omega), if_neg (by rw [ea, e2]; omega), if_neg (by rw [ea, e3]; omega), if_neg (by rw [ea, e4]; omega), if_pos (ea.mpr (by rw [e5]; rfl)), gb_257_119]
    refine n_asks (i1 := 44) (by decide) hx ht fun I1 hF1 ht1 => ?_
    rw [Option.toList_none, List.nil_append, gb_257_127, gb_257_204]
    exact K I1 hF1 ht1
  · rw [if_neg (by rw [ea, e0]; omega), if_neg (by rw [ea, e1]; omega), if_neg (by rw [ea, e2]; omega), if_neg (by rw [ea, e3]; omega), if_neg (by rw [ea, e4]; omega), if_neg (by rw [ea, e5]; omega), if_pos (ea.mpr (by rw [e6]; rfl)), gb_257_130]
    refine n_asks (i1 := 45) (by decide) hx ht fun I1 hF1 ht1 => ?_
    rw [Option.toList_none, List.nil_append, gb_257_138, gb_257_204]
    exact K I1 hF1 ht1
  · rw [if_neg (by rw [ea, e0]; omega), if_neg (by rw [ea, e1]; omega), if_neg (by rw [ea, e2]; omega), if_neg (by rw [ea, e3]; omega), if_neg (by rw [ea, e4]; omega), if_neg (by rw [ea, e5]; omega), if_neg (by rw [ea, e6]; omega), if_pos (ea.mpr (by rw [e7]; rfl)), gb_257_141]
    refine n_asks (i1 := 46) (by decide) hx ht fun I1 hF1 ht1 => ?_
    rw [Option.toList_none, List.nil_append, gb_257_149, gb_257_204]
    exact K I1 hF1 ht1
  · rw [if_neg (by rw [ea, e0]; omega), if_neg (by rw [ea, e1]; omega), if_neg (by rw [ea, e2]; omega), if_neg (by rw [ea, e3]; omega), if_neg (by rw [ea, e4]; omega), if_neg (by rw [ea, e5]; omega), if_neg (by rw [ea, e6]; omega), if_neg (by rw [ea, e7]; omega), if_pos (ea.mpr (by rw [e8]; rfl)), gb_257_152]
    refine n_asks (i1 := 47) (by decide) hx ht fun I1 hF1 ht1 => ?_
    rw [Option.toList_none, List.nil_append, gb_257_160, gb_257_204]
    exact K I1 hF1 ht1
  · rw [if_neg (by rw [ea, e0]; omega), if_neg (by rw [ea, e1]; omega), if_neg (by rw [ea, e2]; omega), if_neg (by rw [ea, e3]; omega), if_neg (by rw [ea, e4]; omega), if_neg (by rw [ea, e5]; omega), if_neg (by rw [ea, e6]; omega), if_neg (by rw [ea, e7]; omega), if_neg (by rw [ea, e8]; omega), if_pos (ea.mpr (by rw [e9]; rfl)), gb_257_163]
    refine n_asks (i1 := 48) (by decide) hx ht fun I1 hF1 ht1 => ?_
    rw [Option.toList_none, List.nil_append, gb_257_171, gb_257_204]
    exact K I1 hF1 ht1
  · rw [if_neg (by rw [ea, e0]; omega), if_neg (by rw [ea, e1]; omega), if_neg (by rw [ea, e2]; omega), if_neg (by rw [ea, e3]; omega), if_neg (by rw [ea, e4]; omega), if_neg (by rw [ea, e5]; omega), if_neg (by rw [ea, e6]; omega), if_neg (by rw [ea, e7]; omega), if_neg (by rw [ea, e8]; omega), if_neg (by rw [ea, e9]; omega), if_pos (ea.mpr (by rw [e10]; rfl)), gb_257_174]
    refine n_asks (i1 := 49) (by decide) hx ht fun I1 hF1 ht1 => ?_
    rw [Option.toList_none, List.nil_append, gb_257_182, gb_257_204]
    exact K I1 hF1 ht1
  · rw [if_neg (by rw [ea, e0]; omega), if_neg (by rw [ea, e1]; omega), if_neg (by rw [ea, e2]; omega), if_neg (by rw [ea, e3]; omega), if_neg (by rw [ea, e4]; omega), if_neg (by rw [ea, e5]; omega), if_neg (by rw [ea, e6]; omega), if_neg (by rw [ea, e7]; omega), if_neg (by rw [ea, e8]; omega), if_neg (by rw [ea, e9]; omega), if_neg (by rw [ea, e10]; omega), if_pos (ea.mpr (by rw [e11]; rfl)), gb_257_185]
    refine n_asks (i1 := 50) (by decide) hx ht fun I1 hF1 ht1 => ?_
    rw [Option.toList_none, List.nil_append, gb_257_193, gb_257_204]
    exact K I1 hF1 ht1
  · rw [if_neg (by rw [ea, e0]; omega), if_neg (by rw [ea, e1]; omega), if_neg (by rw [ea, e2]; omega), if_neg (by rw [ea, e3]; omega), if_neg (by rw [ea, e4]; omega), if_neg (by rw [ea, e5]; omega), if_neg (by rw [ea, e6]; omega), if_neg (by rw [ea, e7]; omega), if_neg (by rw [ea, e8]; omega), if_neg (by rw [ea, e9]; omega), if_neg (by rw [ea, e10]; omega), if_neg (by rw [ea, e11]; omega), gb_257_196]
    refine n_asks (i1 := 51) (by decide) hx ht fun I1 hF1 ht1 => ?_
    rw [Option.toList_none, List.nil_append, gb_257_204]
    exact K I1 hF1 ht1
/-- what ends with a part: words that a part stands behind -/
def ePop (b : Nat) : List Int → Int → List Int → Int × List Int × List Int
  | [], o, L => (o, [], L)
  | v :: W, o, L => if b < W.length + 1 ∧ 60 ≤ v then ePop b W (o - 1) (L ++ [48 - v]) else (o, v :: W, L)
theorem ePop_id {b : Nat} {o : Int} {W L : List Int} (h : W.length ≤ b ∨ W.headD 0 < 60) : ePop b W o L = (o, W, L) := by
  match W, h with
  | [], _ => rfl
  | v :: W, h =>
    refine if_neg fun q => ?_
    rcases h with h | h
    · simp only [List.length_cons] at h; omega
    · have : v < 60 := h
      omega
def ofOk (W : List Int) : Prop := ∀ v ∈ W, 60 ≤ v → v = 60 ∨ v = 61
theorem n_ends {tp : Nat → Int} {n s b : Nat} {g : Bool} (hn : n ≤ 1600) : ∀ (W : List Int) (o : Int) (L : List Int) (I : Nat → Nat → Nat → Int32), mPs I tp n s g o W L b → -10000 ≤ o - W.length → o ≤ 10 → ofOk W → (b ≤ W.length) → (∀ (I' : Nat → Nat → Nat → Int32), (∀ k i j, ¬ ((k = 50 ∧ i = 0 ∧ (j = 99 ∨ j = 101 ∨ j = 102)) ∨ (k = 68 ∧ i = 0)) → I' k i j = I k i j) → mPs I' tp n s g (ePop b W o L).1 (ePop b W o L).2.1 (ePop b W o L).2.2 b → Q none (gwd S I' J h)) → (gq (d + 2) 258 0 [some (.inr (.inr (some (50, 0))))] [] (gwd S I J h) Q)
  | [], o, L, I, hp, ho1, ho2, hO, hbW, K => by
    obtain ⟨ht, ho, hw, hc, hl, hb⟩ := id hp
    have q : (I 50 0 101).toInt = 0 := hw.1
    rw [gb_258_0, if_pos ht.1, gb_258_7, if_pos (by rw [z_le]; omega), gb_258_51]
    exact K I (fun _ _ _ _ => rfl) hp
  | v :: W, o, L, I, hp, ho1, ho2, hO, hbW, K => by
    have e1 : (1 : Int32).toInt = 1 := rfl
    have e60 : (60 : Int32).toInt = 60 := rfl
    obtain ⟨ht, ho, hw, hc, hl, hb⟩ := id hp
    have hsn := mTk_sn ht
    have q := hw.1
    simp only [List.length_cons] at q hl hbW ho1
    have q1 : (I 50 0 101 - 1).toInt = W.length := by rw [z_sub (by omega) (by omega), q, e1]; omega
    have n1 : (I 50 0 101 - 1).toNatClampNeg = W.length := by rw [z_n, q1]; rfl
    have hE : ePop b (v :: W) o L = if b < W.length + 1 ∧ 60 ≤ v then ePop b W (o - 1) (L ++ [48 - v]) else (o, v :: W, L) := rfl
    rw [gb_258_0, if_pos ht.1, gb_258_7]
    by_cases w1 : b < W.length + 1
    case neg =>
      rw [hE, if_neg (fun q => w1 q.1)] at K
      rw [if_pos (by rw [z_le]; omega), gb_258_51]
      exact K I (fun _ _ _ _ => rfl) hp
    rw [if_neg (by rw [z_le]; omega), gb_258_18]
    refine ⟨g_in.mpr (by omega), ?_⟩
    rw [n1, gb_258_29]
    have hv : (I 69 0 W.length).toInt = v := hw.2.1
    by_cases w2 : 60 ≤ v
    case neg =>
      rw [hE, if_neg (fun q => w2 q.2)] at K
      rw [if_pos (by rw [z_lt]; omega), gb_258_51]
      exact K I (fun _ _ _ _ => rfl) hp
    rw [hE, if_pos ⟨w1, w2⟩] at K
    have hg : gMc (48 - v) = v := by
      rcases hO v List.mem_cons_self w2 with rfl | rfl <;> rfl
    rw [if_neg (by rw [z_lt]; omega), gb_258_34]
    refine n_drops (c := 48 - v) (W := W) (L := L) ⟨by rw [u_j (by decide)]; exact hw.1, gHp_congr (fun k _ => u_k (by decide)) (by rw [hg]; exact hw.2)⟩ (mCd_congr hc (u_j (by decide)) (fun j => u_k (by decide))) (by omega) (by omega) fun I1 hF1 hw1 hc1 => ?_
    rw [Option.toList_none, List.nil_append, gb_258_48]
    refine n_ends hn W (o - 1) (L ++ [48 - v]) I1 ⟨mTk_congr ht (fun j hj => by rw [hF1 _ _ _ (by omega), u_j (by omega)]), ?_, hw1, hc1, ?_, by rw [hF1 _ _ _ (by omega), u_j (by decide)]; exact hb⟩ (by omega) (by omega) (fun u hu => hO u (List.mem_cons_of_mem _ hu)) (by omega) fun I2 hF2 hp2 => K I2 (fun k i j hn => by rw [hF2 _ _ _ hn, hF1 _ _ _ (by omega), u_ne (by omega)]) hp2
    · rw [hF1 _ _ _ (by omega), u_eq, z_sub (by omega) (by omega), ho, e1]
    · rw [List.length_append]; simp only [List.length_cons, List.length_nil]; omega
