/-! The model: its counts. -/
variable {d S : Nat} {h : Nat × Option gNm} {I : Nat → Nat → Nat → Int32} {J : Nat → Nat → Nat → Int64} {Q : Option gV → gW → Prop}
theorem n_has {a1 : Int32} {C : gCo} {t : gSt} {lg : Nat → Int} {nl rm al : Int} (hc : cOk C) (hC : mCo I C) (hto : tOk C t) (hp : tPs C t) (hS : mS I C t) (hk : mKp I lg nl) (hr : (I 50 0 64).toInt = rm) (ha : (I 50 0 70).toInt = al) (K : ∀ x : Int32, x.toInt = gHas C t nl rm al a1.toInt → Q (some (.inl x)) (gwd S I J h)) : (gq (d + 2) 214 0 [some (.inr (.inr (some (50, 0)))), some (.inl (a1))] [] (gwd S I J h) Q) := by
  have e5 : (5 : Int32).toInt = 5 := rfl
  obtain ⟨c5, c6, c7, _, _⟩ := hC.1
  obtain ⟨s0, s1, s2, s3⟩ := hS.1
  have nx : ∀ {v : Int32}, ¬ a1 = v → ¬ a1.toInt = v.toInt := fun hn e => hn (z_inj e)
  rw [gb_214_0]
  by_cases w0 : a1 = 0
  · rw [if_pos w0, gb_214_64, w0]
    refine ⟨rfl, ?_⟩
    rw [show (5 + 0 : Int32).toNatClampNeg = 5 from rfl, gb_214_72]
    exact K _ (by rw [w0, c5]; rfl)
  have v0 : ¬ a1.toInt = 0 := nx w0
  rw [if_neg w0]
  by_cases w1 : a1 = 1
  · rw [if_pos w1, gb_214_64, w1]
    refine ⟨rfl, ?_⟩
    rw [show (5 + 1 : Int32).toNatClampNeg = 6 from rfl, gb_214_72]
    exact K _ (by rw [w1, c6]; rfl)
  have v1 : ¬ a1.toInt = 1 := nx w1
  rw [if_neg w1]
  by_cases w2 : a1 = 2
  · rw [if_pos w2, gb_214_64, w2]
    refine ⟨rfl, ?_⟩
    rw [show (5 + 2 : Int32).toNatClampNeg = 7 from rfl, gb_214_72]
    exact K _ (by rw [w2, c7]; rfl)
  have v2 : ¬ a1.toInt = 2 := nx w2
  rw [if_neg w2]
  by_cases w3 : a1 = 3
  · rw [if_pos w3, gb_214_73]
    refine ⟨rfl, ?_⟩
    rw [show (0 : Int32).toNatClampNeg = 0 from rfl, gb_214_79]
    exact K _ (by rw [w3, s0]; rfl)
  have v3 : ¬ a1.toInt = 3 := nx w3
  rw [if_neg w3]
  by_cases w4 : a1 = 4
  · rw [if_pos w4, gb_214_80]
    refine ⟨rfl, ?_⟩
    rw [show (1 : Int32).toNatClampNeg = 1 from rfl, gb_214_86]
    exact K _ (by rw [w4, s1]; rfl)
  have v4 : ¬ a1.toInt = 4 := nx w4
  rw [if_neg w4]
  by_cases w5 : a1 = 5
  · rw [if_pos w5, gb_214_87]
    refine ⟨rfl, ?_⟩
    rw [show (2 : Int32).toNatClampNeg = 2 from rfl, gb_214_93]
    exact K _ (by rw [w5, s2]; rfl)
  have v5 : ¬ a1.toInt = 5 := nx w5
  rw [if_neg w5]
  by_cases w6 : a1 = 6
  · rw [if_pos w6, gb_214_94, if_neg hC.2.2.2.2, gb_214_101]
    refine ⟨rfl, ?_⟩
    rw [show (3 : Int32).toNatClampNeg = 3 from rfl, gb_214_107, gb_214_111]
    exact K _ (by rw [w6, s3]; rfl)
  have v6 : ¬ a1.toInt = 6 := nx w6
  rw [if_neg w6]
  by_cases w7 : a1 = 7
  · have r5 := hto.2.2.2.2.2.1
    rw [if_pos w7, gb_214_112]
    refine n_passedSet hc hC hto hp hS fun x hx => ?_
    rw [Option.toList_some, List.singleton_append, gb_214_116]
    have hx' : x = Int32.ofNat (t 5).toNat := by rw [← hx]; exact z_ofn x (by omega)
    refine n_bits hx' (by omega) fun y hy => ?_
    rw [Option.toList_some, List.singleton_append, gb_214_119]
    exact K _ (by rw [w7, hy]; rfl)
  have v7 : ¬ a1.toInt = 7 := nx w7
  rw [if_neg w7]
  by_cases w8 : a1 = 8
  · rw [if_pos w8, gb_214_120, n_isThrough hC hS hto.2.2.1.1, Option.toList_some, List.singleton_append, gb_214_124]
    by_cases w : gThru C t = true
    · rw [if_neg (by rw [zb_pos w]; decide), gb_214_127, gb_214_132]
      exact K _ (by rw [w8, show gHas C t nl rm al (8 : Int32).toInt = if gThru C t then 1 else 0 from rfl, if_pos w]; rfl)
    · rw [if_pos (zb_neg w), gb_214_131, gb_214_132]
      exact K _ (by rw [w8, show gHas C t nl rm al (8 : Int32).toInt = if gThru C t then 1 else 0 from rfl, if_neg w]; rfl)
  have v8 : ¬ a1.toInt = 8 := nx w8
  rw [if_neg w8]
  by_cases w9 : a1 = 9
  · rw [if_pos w9, gb_214_133]
    refine ⟨rfl, ?_⟩
    rw [show (28 : Int32).toNatClampNeg = 28 from rfl, gb_214_140]
    exact K _ (by rw [w9, hk.1]; rfl)
  have v9 : ¬ a1.toInt = 9 := nx w9
  rw [if_neg w9]
  by_cases w10 : a1 = 10
  · rw [if_pos w10, gb_214_141]
    exact K _ (by rw [w10, hr]; rfl)
  have v10 : ¬ a1.toInt = 10 := nx w10
  rw [if_neg w10]
  by_cases w11 : a1 = 11
  · rw [if_pos w11, gb_214_146]
    exact K _ (by rw [w11, ha]; rfl)
  have v11 : ¬ a1.toInt = 11 := nx w11
  rw [if_neg w11, gb_214_151, gb_214_152]
  exact K _ (by unfold gHas; rw [if_neg v0, if_neg v1, if_neg v2, if_neg v3, if_neg v4, if_neg v5, if_neg v6, if_neg v7, if_neg v8, if_neg v9, if_neg v10, if_neg v11]; rfl)
/-- without a course -/
def gHas0 (v : Int) : Int := if 0 ≤ v ∧ v ≤ 11 ∧ v ≠ 6 then 0 else -1
def mNo (I : Nat → Nat → Nat → Int32) : Prop := I 50 0 48 = 0 ∧ I 54 0 5 = 0 ∧ I 54 0 6 = 0 ∧ I 54 0 7 = 0 ∧ I 61 0 0 = 0 ∧ I 61 0 1 = 0 ∧ I 61 0 2 = 0 ∧ I 61 0 28 = 0 ∧ I 50 0 64 = 0 ∧ I 50 0 70 = 0
theorem n_has0 {a1 : Int32} (hn : mNo I) (K : ∀ x : Int32, x.toInt = gHas0 a1.toInt → Q (some (.inl x)) (gwd S I J h)) : (gq (d + 2) 214 0 [some (.inr (.inr (some (50, 0)))), some (.inl (a1))] [] (gwd S I J h) Q) := by
  obtain ⟨z48, c5, c6, c7, s0, s1, s2, s28, z64, z70⟩ := hn
  have e11 : (11 : Int32).toInt = 11 := rfl
  have nx : ∀ {v : Int32}, ¬ a1 = v → ¬ a1.toInt = v.toInt := fun hn e => hn (z_inj e)
  have K0 : ∀ {v : Int32}, a1 = v → gHas0 v.toInt = 0 → Q (some (.inl 0)) (gwd S I J h) := fun e e2 => K 0 (by rw [e, e2]; rfl)
  rw [gb_214_0]
  by_cases w0 : a1 = 0
  · rw [if_pos w0, gb_214_64, w0]
    refine ⟨rfl, ?_⟩
    rw [show (5 + 0 : Int32).toNatClampNeg = 5 from rfl, gb_214_72, c5]
    exact K0 w0 rfl
  have v0 : ¬ a1.toInt = 0 := nx w0
  rw [if_neg w0]
  by_cases w1 : a1 = 1
  · rw [if_pos w1, gb_214_64, w1]
    refine ⟨rfl, ?_⟩
    rw [show (5 + 1 : Int32).toNatClampNeg = 6 from rfl, gb_214_72, c6]
    exact K0 w1 rfl
  have v1 : ¬ a1.toInt = 1 := nx w1
  rw [if_neg w1]
  by_cases w2 : a1 = 2
  · rw [if_pos w2, gb_214_64, w2]
    refine ⟨rfl, ?_⟩
    rw [show (5 + 2 : Int32).toNatClampNeg = 7 from rfl, gb_214_72, c7]
    exact K0 w2 rfl
  have v2 : ¬ a1.toInt = 2 := nx w2
  rw [if_neg w2]
  by_cases w3 : a1 = 3
  · rw [if_pos w3, gb_214_73]
    refine ⟨rfl, ?_⟩
    rw [show (0 : Int32).toNatClampNeg = 0 from rfl, gb_214_79, s0]
    exact K0 w3 rfl
  have v3 : ¬ a1.toInt = 3 := nx w3
  rw [if_neg w3]
  by_cases w4 : a1 = 4
  · rw [if_pos w4, gb_214_80]
    refine ⟨rfl, ?_⟩
    rw [show (1 : Int32).toNatClampNeg = 1 from rfl, gb_214_86, s1]
    exact K0 w4 rfl
  have v4 : ¬ a1.toInt = 4 := nx w4
  rw [if_neg w4]
  by_cases w5 : a1 = 5
  · rw [if_pos w5, gb_214_87]
    refine ⟨rfl, ?_⟩
    rw [show (2 : Int32).toNatClampNeg = 2 from rfl, gb_214_93, s2]
    exact K0 w5 rfl
  have v5 : ¬ a1.toInt = 5 := nx w5
  rw [if_neg w5]
  by_cases w6 : a1 = 6
  · rw [if_pos w6, gb_214_94, if_pos z48, gb_214_110, gb_214_111]
    exact K _ (by rw [w6]; rfl)
  have v6 : ¬ a1.toInt = 6 := nx w6
  rw [if_neg w6]
  by_cases w7 : a1 = 7
  · rw [if_pos w7, gb_214_112, gb_213_0, gb_213_4, n_houses, Option.toList_some, List.singleton_append, gb_213_9, c7, if_pos (by decide), gb_213_37, Option.toList_some, List.singleton_append, gb_214_116, gb_212_0, gb_212_4, if_pos rfl, gb_212_20, Option.toList_some, List.singleton_append, gb_214_119]
    exact K0 w7 rfl
  have v7 : ¬ a1.toInt = 7 := nx w7
  rw [if_neg w7]
  by_cases w8 : a1 = 8
  · rw [if_pos w8, gb_214_120, gb_200_0, if_pos z48]
    simp only [gb_200_0, gb_200_7, gb_200_13, gb_200_17, gb_200_20, gb_200_24, gb_200_27, gb_200_31, gb_200_32, g_t0, true_and]
    rw [Option.toList_some, List.singleton_append, gb_214_124, if_pos rfl, gb_214_131, gb_214_132]
    exact K0 w8 rfl
  have v8 : ¬ a1.toInt = 8 := nx w8
  rw [if_neg w8]
  by_cases w9 : a1 = 9
  · rw [if_pos w9, gb_214_133]
    refine ⟨rfl, ?_⟩
    rw [show (28 : Int32).toNatClampNeg = 28 from rfl, gb_214_140, s28]
    exact K0 w9 rfl
  have v9 : ¬ a1.toInt = 9 := nx w9
  rw [if_neg w9]
  by_cases w10 : a1 = 10
  · rw [if_pos w10, gb_214_141, z64]
    exact K0 w10 rfl
  have v10 : ¬ a1.toInt = 10 := nx w10
  rw [if_neg w10]
  by_cases w11 : a1 = 11
  · rw [if_pos w11, gb_214_146, z70]
    exact K0 w11 rfl
  have v11 : ¬ a1.toInt = 11 := nx w11
  rw [if_neg w11, gb_214_151, gb_214_152]
  exact K _ (by unfold gHas0; rw [if_neg (by omega)]; rfl)
