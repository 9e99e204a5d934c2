/-! The class: what the course and the state hold; refusals. -/
variable {d S : Nat} {h : Nat × Option gNm} {I : Nat → Nat → Nat → Int32} {J : Nat → Nat → Nat → Int64} {Q : Option gV → gW → Prop}
def kRf (I : Nat → Nat → Nat → Int32) (rf : Nat → Int32) : Prop := ∀ k, k < 6 → I 33 0 k = rf k
theorem kRf_up {w : Nat} {rf : Nat → Int32} (hw : w < 6) (hf : kRf I rf) : kRf (gup I 33 0 w (I 33 0 w + 1)) (gRef rf w) := fun k hk => by
  rw [u_at]
  unfold gRef
  split
  · rename_i e; rw [e, hf w hw]
  · exact hf k hk
theorem m_refuse {a1 : Int32} {w : Nat} {rf : Nat → Int32} (h1 : a1.toInt = w) (hw : w < 6) (hf : kRf I rf) (K : ∀ (I' : Nat → Nat → Nat → Int32), (∀ k i j, ¬ ((k = 33 ∧ i = 0)) → I' k i j = I k i j) → kRf I' (gRef rf w) → Q (some (.inl (Int32.ofInt (-1)))) (gwd S I' J h)) : (gq d 149 0 [some (.inr (.inr (some (10, 0)))), some (.inl (a1))] [] (gwd S I J h) Q) := by
  have e6 : (Int32.ofNat 6).toInt = 6 := rfl
  have n1 : a1.toNatClampNeg = w := by rw [z_n]; omega
  rw [gb_149_0, if_neg (by rw [z_lt, z_0]; omega), gb_149_4, if_neg (by rw [z_le, e6]; omega), gb_149_13]
  refine ⟨g_in.mpr (by omega), ?_⟩
  rw [gb_149_20]
  refine ⟨g_in.mpr (by omega), ?_⟩
  rw [n1, gb_149_23, gb_149_24]
  exact K _ (fun k i j hn => u_ne (by omega)) (kRf_up hw hf)
theorem m_refuseB {a1 : Int32} {w : Nat} {rf : Nat → Int32} (h1 : a1.toInt = w) (hw : w < 6) (hf : kRf I rf) (K : ∀ (I' : Nat → Nat → Nat → Int32), (∀ k i j, ¬ ((k = 33 ∧ i = 0)) → I' k i j = I k i j) → kRf I' (gRef rf w) → Q (some (.inl 0)) (gwd S I' J h)) : (gq (d + 1) 150 0 [some (.inr (.inr (some (10, 0)))), some (.inl (a1))] [] (gwd S I J h) Q) := by
  rw [gb_150_0]
  refine m_refuse h1 hw hf fun I1 hF1 hf1 => ?_
  rw [Option.toList_some, List.singleton_append, gb_150_5]
  exact K I1 hF1 hf1
theorem m_status {a1 : Int32} {rf : Nat → Int32} (hf : kRf I rf) (K : ∀ x : Int32, x = (if 0 ≤ a1.toInt ∧ a1.toInt ≤ 5 then rf a1.toInt.toNat else Int32.ofInt (-1)) → Q (some (.inl x)) (gwd S I J h)) : (gq d 147 0 [some (.inr (.inr (some (10, 0)))), some (.inl (a1))] [] (gwd S I J h) Q) := by
  have e6 : (Int32.ofNat 6).toInt = 6 := rfl
  rw [gb_147_0]
  by_cases w1 : 0 ≤ a1.toInt
  case neg =>
    rw [if_pos (by rw [z_lt, z_0]; omega), gb_147_22, gb_147_23]
    exact K _ (by rw [if_neg (by omega)])
  rw [if_neg (by rw [z_lt, z_0]; omega), gb_147_4]
  by_cases w2 : a1.toInt ≤ 5
  case neg =>
    rw [if_pos (by rw [z_le, e6]; omega), gb_147_22, gb_147_23]
    exact K _ (by rw [if_neg (by omega)])
  rw [if_neg (by rw [z_le, e6]; omega), gb_147_13]
  refine ⟨g_in.mpr (by omega), ?_⟩
  rw [gb_147_19, gb_147_23]
  exact K _ (by rw [if_pos ⟨w1, w2⟩, z_n]; exact hf _ (by omega))
theorem m_isAhead {a1 a2 a3 : Int32} {t : gSt} (h10 : I 10 0 10 ≠ 0) (hS : kS I 0 t) (r0 : 0 ≤ t 0 ∧ t 0 ≤ 2000) (K : ∀ x, x = zb (a2.toInt ≤ a1.toInt ∧ a1.toInt ≤ a3.toInt ∧ t 0 + a1.toInt ≤ 999) → Q (some (.inl x)) (gwd S I J h)) : (gq d 151 0 [some (.inr (.inr (some (10, 0)))), some (.inl (a1)), some (.inl (a2)), some (.inl (a3))] [] (gwd S I J h) Q) := by
  have e999 : (999 : Int32).toInt = 999 := rfl
  have s0 := hS.1 0 (by decide)
  have q : (999 - I 21 0 0).toInt = 999 - t 0 := by rw [z_sub (by omega) (by omega), s0, e999]
  have no : ¬ (a2.toInt ≤ a1.toInt ∧ a1.toInt ≤ a3.toInt ∧ t 0 + a1.toInt ≤ 999) → (gq d 151 36 [some (.inr (.inr (some (10, 0)))), some (.inl (a1)), some (.inl (a2)), some (.inl (a3))] [] (gwd S I J h) Q) := fun w => by
    rw [gb_151_36, gb_151_37, g_t0, true_and]
    exact K 0 (zb_neg w).symm
  rw [gb_151_0, if_neg h10, gb_151_7]
  by_cases w1 : a2.toInt ≤ a1.toInt
  case neg => rw [if_pos (by rw [z_lt]; omega)]; exact no (by omega)
  rw [if_neg (by rw [z_lt]; omega), gb_151_12]
  by_cases w2 : a1.toInt ≤ a3.toInt
  case neg => rw [if_pos (by rw [z_lt]; omega)]; exact no (by omega)
  rw [if_neg (by rw [z_lt]; omega), gb_151_17]
  by_cases w3 : t 0 + a1.toInt ≤ 999
  case neg => rw [if_pos (by rw [z_lt]; omega)]; exact no (by omega)
  rw [if_neg (by rw [z_lt]; omega), gb_151_32, gb_151_37, g_t1, true_and]
  exact K 1 (zb_pos ⟨w1, w2, w3⟩).symm
theorem m_isAhead0 {a1 a2 a3 : Int32} (h10 : I 10 0 10 = 0) (K : Q (some (.inl 0)) (gwd S I J h)) : (gq d 151 0 [some (.inr (.inr (some (10, 0)))), some (.inl (a1)), some (.inl (a2)), some (.inl (a3))] [] (gwd S I J h) Q) := by
  rw [gb_151_0, if_pos h10, gb_151_36, gb_151_37, g_t0, true_and]
  exact K
theorem m_waitsB {a1 : Int32} {C : gCo} {t : gSt} (hc : cOk C) (h10 : I 10 0 10 ≠ 0) (hC : kCo I h.1 C) (hS : kS I 0 t) (K : ∀ x, x = zb ((0 ≤ a1.toInt ∧ a1.toInt < C.1 2) ∧ a1.toInt ≠ t 3) → Q (some (.inl x)) (gwd S I J h)) : (gq (d + 1) 152 0 [some (.inr (.inr (some (10, 0)))), some (.inl (a1))] [] (gwd S I J h) Q) := by
  have c2 := hC.1 2 (by decide)
  have s3 := hS.1 3 (by decide)
  have rB := hc.2.2.1
  rw [gb_152_0, if_neg h10, gb_152_7, m_hasBearer, Option.toList_some, List.singleton_append, gb_152_15]
  by_cases w : 0 ≤ a1.toInt ∧ a1.toInt < C.1 2
  case neg =>
    rw [if_pos (zb_neg (by omega)), gb_152_33, gb_152_34, g_t0, true_and]
    exact K 0 (zb_neg (fun e => w e.1)).symm
  rw [if_neg (by rw [zb_pos (by omega)]; decide), gb_152_18]
  by_cases w1 : a1.toInt = t 3
  · rw [if_pos (z_inj (by rw [s3, w1])), gb_152_33, gb_152_34, g_t0, true_and]
    exact K 0 (zb_neg (fun e => e.2 w1)).symm
  · rw [if_neg (fun e => w1 (by rw [e, s3])), gb_152_29, gb_152_34, g_t1, true_and]
    exact K 1 (zb_pos ⟨w, w1⟩).symm
theorem m_waitsB0 {a1 : Int32} (h10 : I 10 0 10 = 0) (K : Q (some (.inl 0)) (gwd S I J h)) : (gq (d + 1) 152 0 [some (.inr (.inr (some (10, 0)))), some (.inl (a1))] [] (gwd S I J h) Q) := by
  rw [gb_152_0, if_pos h10, gb_152_33, gb_152_34, g_t0, true_and]
  exact K
theorem m_takesB {a1 : Int32} {x2 : Option gV} {b : Nat} {C : gCo} {t : gSt} (hc : cOk C) (hC : kCo I h.1 C) (hto : tOk C t) (hS : kS I 0 t) (h1 : a1.toInt = b) (hb : (b : Int) < C.1 2)
    (K : ∀ I' (x : Int32), (∀ k i j, ¬ ((k = 14 ∧ i = h.1 ∧ (j = 3 ∨ j = 4 ∨ j = 5 ∨ j = 6)) ∨ (k = 16 ∧ i = h.1) ∨ (k = 18 ∧ i = h.1)) → I' k i j = I k i j) → (x = 0 ∨ x = 1) → (x = 1 ↔ gTkb C t b = true) → Q (some (.inl x)) (gwd S I' J h)) : (gq (d + 4) 153 0 [some (.inr (.inr (some (10, 0)))), some (.inl (a1)), x2] [] (gwd S I J h) Q) := by
  have c2 := hC.1 2 (by decide)
  have s0 := hS.1 0 (by decide)
  have s1 := hS.1 1 (by decide)
  have s2 := hS.1 2 (by decide)
  have rB := hc.2.2.1
  have rM := hc.2.1
  have h8 : b < 8 := by omega
  have sb := hS.2 b h8
  have cp := hC.2.2.1 b h8
  have hB := hc.2.2.2.2.2.2.1 b hb
  have r0 := hto.1
  have r1 := hto.2.1
  have r2 := hto.2.2.1
  have rb := hto.2.2.2.2.2.2 b hb
  have n1 : a1.toNatClampNeg = b := by rw [z_n]; omega
  rw [gb_153_0, m_hasBearer, Option.toList_some, List.singleton_append, gb_153_8, if_neg (by rw [zb_pos (by omega)]; decide), gb_153_13]
  refine ⟨g_in.mpr (by omega), ?_⟩
  rw [n1, gb_153_26]
  refine m_lightAt hc.2.2.2.2.2.2.2.2.1 (hC.2.2.2.2.2.2 0 (by decide)) (by omega) (by omega) fun I1 x hF1 hx => ?_
  rw [Option.toList_some, List.singleton_append, gb_153_36]
  have f0 := hF1 21 0 0 (by omega)
  have f1 := hF1 21 0 1 (by omega)
  have f2 := hF1 21 0 2 (by omega)
  have f3 := hF1 22 0 b (by omega)
  have f4 := hF1 36 h.1 b (by omega)
  have f5 := hF1 34 h.1 2 (by omega)
  have hl := gLight_r (C.2 0) (I 22 0 b).toInt (I 21 0 0).toInt
  refine m_wouldTake (b := b) (l := C.2 2) hc.2.2.2.2.2.2.2.2.2.2 ((kCo_congr hC fun k j hk => hF1 _ _ _ (by omega)).2.2.2.2.2.2 2 (by decide)) h1 (by rw [f5]; omega) (by omega) (by omega) (by rw [f0]; omega) (by rw [f1]; omega) (by rw [f2]; omega) (by rw [f4]; omega) (by rw [f3]; omega) fun I2 y hF2 hy => ?_
  rw [Option.toList_some, List.singleton_append, gb_153_54]
  rw [f0, f1, f2, f3, f4, hx, s0, s1, s2, sb, cp] at hy
  have hF : (∀ k i j, ¬ ((k = 14 ∧ i = h.1 ∧ (j = 3 ∨ j = 4 ∨ j = 5 ∨ j = 6)) ∨ (k = 16 ∧ i = h.1) ∨ (k = 18 ∧ i = h.1)) → I2 k i j = I k i j) := fun k i j hn => by rw [hF2 _ _ _ hn, hF1 _ _ _ hn]
  rcases hy with ⟨rfl, hy⟩ | ⟨rfl, hy⟩
  · exact ⟨rfl, K I2 1 hF (Or.inr rfl) ⟨fun _ => gTkb_iff.mpr hy, fun _ => rfl⟩⟩
  · exact ⟨rfl, K I2 0 hF (Or.inl rfl) ⟨fun e => absurd e (by decide), fun e => absurd (gTkb_iff.mp e) hy⟩⟩
theorem m_bearerP {a1 a2 : Int32} {C : gCo} {t : gSt} (hc : cOk C) (h10 : I 10 0 10 ≠ 0) (hC : kCo I h.1 C) (hto : tOk C t) (hS : kS I 0 t)
    (K : ∀ I' (x : Int32), (∀ k i j, ¬ ((k = 14 ∧ i = h.1 ∧ (j = 3 ∨ j = 4 ∨ j = 5 ∨ j = 6)) ∨ (k = 16 ∧ i = h.1) ∨ (k = 18 ∧ i = h.1)) → I' k i j = I k i j) → x.toInt = gBear C t a1.toInt a2.toInt → Q (some (.inl x)) (gwd S I' J h)) : (gq (d + 5) 122 0 [some (.inr (.inr (some (10, 0)))), some (.inl (a1)), some (.inl (a2))] [] (gwd S I J h) Q) := by
  have c2 := hC.1 2 (by decide)
  have s4 := hS.1 4 (by decide)
  have rB := hc.2.2.1
  have r4 := hto.2.2.2.2.1
  have K' : ∀ x : Int32, x.toInt = gBear C t a1.toInt a2.toInt → Q (some (.inl x)) (gwd S I J h) := fun x hx => K I x (fun _ _ _ _ => rfl) hx
  rw [gb_122_0, if_neg h10, gb_122_7, m_hasBearer, Option.toList_some, List.singleton_append, gb_122_15]
  by_cases w : 0 ≤ a1.toInt ∧ a1.toInt < C.1 2
  case neg =>
    rw [if_pos (zb_neg (by omega)), gb_122_18, gb_122_19]
    exact K' _ (by unfold gBear; rw [if_neg w]; rfl)
  have n1 : a1.toNatClampNeg = a1.toInt.toNat := z_n a1
  rw [if_neg (by rw [zb_pos (by omega)]; decide), gb_122_20]
  by_cases w0 : a2 = 0
  · rw [if_pos w0, gb_122_52]
    refine ⟨g_in.mpr (by omega), ?_⟩
    rw [n1, gb_122_61]
    exact K' _ (by unfold gBear; rw [if_pos w, if_pos (by rw [w0]; rfl)]; exact hS.2 _ (by omega))
  have w0' : ¬ a2.toInt = 0 := fun e => w0 (z_inj e)
  rw [if_neg w0]
  by_cases w1 : a2 = 1
  · rw [if_pos w1, gb_122_62]
    refine ⟨g_in.mpr (by omega), ?_⟩
    rw [n1, gb_122_71]
    exact K' _ (by unfold gBear; rw [if_pos w, if_neg w0', if_pos (by rw [w1]; rfl)]; exact hC.2.2.1 _ (by omega))
  have w1' : ¬ a2.toInt = 1 := fun e => w1 (z_inj e)
  rw [if_neg w1]
  by_cases w2 : a2 = 2
  · have hb := z_bit (x := I 21 0 4) (a := a1) (b := a1.toInt.toNat) (by omega) (by omega) (by omega) (by omega)
    rw [s4] at hb
    rw [if_pos w2, gb_122_72, m_isAside, Option.toList_some, List.singleton_append, gb_122_80]
    have fin : gBear C t a1.toInt a2.toInt = gBi (t 4) a1.toInt.toNat := by unfold gBear; rw [if_pos w, if_neg w0', if_neg w1', if_pos (by rw [w2]; rfl)]
    by_cases e : gBit (t 4) a1.toInt.toNat = true
    · rw [if_neg (by rw [zb_pos (hb.mpr e)]; decide), gb_122_83, gb_122_88]
      exact K' _ (by rw [fin]; unfold gBi; rw [if_pos e]; rfl)
    · rw [if_pos (zb_neg (fun f => e (hb.mp f))), gb_122_87, gb_122_88]
      exact K' _ (by rw [fin]; unfold gBi; rw [if_neg e]; rfl)
  have w2' : ¬ a2.toInt = 2 := fun e => w2 (z_inj e)
  rw [if_neg w2]
  by_cases w3 : a2 = 3
  · have w3' : a2.toInt = 3 := by rw [w3]; rfl
    rw [if_pos w3, gb_122_89]
    refine m_takesB (b := a1.toInt.toNat) hc hC hto hS (by omega) (by omega) fun I1 x hF hx hx1 => ?_
    rw [Option.toList_some, List.singleton_append, gb_122_94]
    by_cases w4 : gTkb C t a1.toInt.toNat = true
    · rw [if_neg (by rw [hx1.mpr w4]; decide), gb_122_97, gb_122_102]
      exact K I1 _ hF (by unfold gBear; rw [if_pos w, if_neg w0', if_neg w1', if_neg w2', if_pos w3', if_pos w4]; rfl)
    · rw [if_pos (hx.resolve_right fun e => w4 (hx1.mp e)), gb_122_101, gb_122_102]
      exact K I1 _ hF (by unfold gBear; rw [if_pos w, if_neg w0', if_neg w1', if_neg w2', if_pos w3', if_neg w4]; rfl)
  have w3' : ¬ a2.toInt = 3 := fun e => w3 (z_inj e)
  rw [if_neg w3, gb_122_103, gb_122_104]
  exact K' _ (by unfold gBear; rw [if_pos w, if_neg w0', if_neg w1', if_neg w2', if_neg w3']; rfl)
theorem m_bearerP0 {a1 a2 : Int32} (h10 : I 10 0 10 = 0) (K : ∀ x : Int32, x.toInt = -1 → Q (some (.inl x)) (gwd S I J h)) : (gq (d + 5) 122 0 [some (.inr (.inr (some (10, 0)))), some (.inl (a1)), some (.inl (a2))] [] (gwd S I J h) Q) := by
  rw [gb_122_0, if_pos h10, gb_122_18, gb_122_19]
  exact K _ rfl
theorem m_houseP {a1 a2 : Int32} {C : gCo} {t : gSt} (hc : cOk C) (h10 : I 10 0 10 ≠ 0) (hC : kCo I h.1 C) (hto : tOk C t) (hS : kS I 0 t) (K : ∀ x : Int32, x.toInt = gHous C t a1.toInt a2.toInt → Q (some (.inl x)) (gwd S I J h)) : (gq (d + 1) 123 0 [some (.inr (.inr (some (10, 0)))), some (.inl (a1)), some (.inl (a2))] [] (gwd S I J h) Q) := by
  have c3 := hC.1 3 (by decide)
  have s5 := hS.1 5 (by decide)
  have rH := hc.2.2.2.1
  have r5 := hto.2.2.2.2.2.1
  rw [gb_123_0, if_neg h10, gb_123_7, m_hasHouse, Option.toList_some, List.singleton_append, gb_123_15]
  by_cases w : 0 ≤ a1.toInt ∧ a1.toInt < C.1 3
  case neg =>
    rw [if_pos (zb_neg (by omega)), gb_123_18, gb_123_19]
    exact K _ (by unfold gHous; rw [if_neg w]; rfl)
  have n1 : a1.toNatClampNeg = a1.toInt.toNat := z_n a1
  rw [if_neg (by rw [zb_pos (by omega)]; decide), gb_123_20]
  by_cases w0 : a2 = 0
  · rw [if_pos w0, gb_123_48]
    refine ⟨g_in.mpr (by omega), ?_⟩
    rw [n1, gb_123_57]
    exact K _ (by unfold gHous; rw [if_pos w, if_pos (by rw [w0]; rfl)]; exact hC.2.2.2.1 _ (by omega))
  have w0' : ¬ a2.toInt = 0 := fun e => w0 (z_inj e)
  rw [if_neg w0]
  by_cases w1 : a2 = 1
  · rw [if_pos w1, gb_123_58]
    refine ⟨g_in.mpr (by omega), ?_⟩
    rw [n1, gb_123_67]
    exact K _ (by unfold gHous; rw [if_pos w, if_neg w0', if_pos (by rw [w1]; rfl)]; exact hC.2.2.2.2.1 _ (by omega))
  have w1' : ¬ a2.toInt = 1 := fun e => w1 (z_inj e)
  rw [if_neg w1]
  by_cases w2 : a2 = 2
  · have hb := z_bit (x := I 21 0 5) (a := a1) (b := a1.toInt.toNat) (by omega) (by omega) (by omega) (by omega)
    rw [s5] at hb
    rw [if_pos w2, gb_123_68, m_hasPassed, Option.toList_some, List.singleton_append, gb_123_76]
    have fin : gHous C t a1.toInt a2.toInt = gBi (t 5) a1.toInt.toNat := by unfold gHous; rw [if_pos w, if_neg w0', if_neg w1', if_pos (by rw [w2]; rfl)]
    by_cases e : gBit (t 5) a1.toInt.toNat = true
    · rw [if_neg (by rw [zb_pos (hb.mpr e)]; decide), gb_123_79, gb_123_84]
      exact K _ (by rw [fin]; unfold gBi; rw [if_pos e]; rfl)
    · rw [if_pos (zb_neg (fun f => e (hb.mp f))), gb_123_83, gb_123_84]
      exact K _ (by rw [fin]; unfold gBi; rw [if_neg e]; rfl)
  have w2' : ¬ a2.toInt = 2 := fun e => w2 (z_inj e)
  rw [if_neg w2, gb_123_85, gb_123_86]
  exact K _ (by unfold gHous; rw [if_pos w, if_neg w0', if_neg w1', if_neg w2']; rfl)
theorem m_houseP0 {a1 a2 : Int32} (h10 : I 10 0 10 = 0) (K : ∀ x : Int32, x.toInt = -1 → Q (some (.inl x)) (gwd S I J h)) : (gq (d + 1) 123 0 [some (.inr (.inr (some (10, 0)))), some (.inl (a1)), some (.inl (a2))] [] (gwd S I J h) Q) := by
  rw [gb_123_0, if_pos h10, gb_123_18, gb_123_19]
  exact K _ rfl
theorem m_lightP {a1 a2 : Int32} {C : gCo} {t : gSt} (hc : cOk C) (h10 : I 10 0 10 ≠ 0) (hC : kCo I h.1 C) (hto : tOk C t) (hS : kS I 0 t)
    (K : ∀ I' (x : Int32), (∀ k i j, ¬ ((k = 14 ∧ i = h.1 ∧ (j = 3 ∨ j = 4 ∨ j = 5 ∨ j = 6)) ∨ (k = 16 ∧ i = h.1) ∨ (k = 18 ∧ i = h.1)) → I' k i j = I k i j) → x.toInt = gLit C t a1.toInt a2.toInt → Q (some (.inl x)) (gwd S I' J h)) : (gq (d + 4) 124 0 [some (.inr (.inr (some (10, 0)))), some (.inl (a1)), some (.inl (a2))] [] (gwd S I J h) Q) := by
  have e60 : (60 : Int32).toInt = 60 := rfl
  have c1 := hC.1 1 (by decide)
  have s0 := hS.1 0 (by decide)
  have rm := hc.2.1
  have r0 := hto.1
  have no : ¬ ((0 ≤ a1.toInt ∧ a1.toInt ≤ C.1 1) ∧ 0 ≤ a2.toInt ∧ a2.toInt ≤ 60 ∧ t 0 + a2.toInt ≤ 999) → (gq (d + 4) 124 29 [some (.inr (.inr (some (10, 0)))), some (.inl (a1)), some (.inl (a2))] [] (gwd S I J h) Q) := fun w => by
    rw [gb_124_29, gb_124_30]
    exact K I _ (fun _ _ _ _ => rfl) (by unfold gLit; rw [if_neg w]; rfl)
  rw [gb_124_0, if_neg h10, gb_124_7, m_hasMile, Option.toList_some, List.singleton_append, gb_124_15, c1]
  by_cases w1 : 0 ≤ a1.toInt ∧ a1.toInt ≤ C.1 1
  case neg => rw [if_pos (zb_neg w1)]; exact no (fun e => w1 e.1)
  rw [if_neg (by rw [zb_pos w1]; decide), gb_124_18]
  refine m_isAhead h10 hS hto.1 fun x hx => ?_
  rw [Option.toList_some, List.singleton_append, gb_124_26, hx, e60, z_0]
  by_cases w2 : 0 ≤ a2.toInt ∧ a2.toInt ≤ 60 ∧ t 0 + a2.toInt ≤ 999
  case neg => rw [if_pos (zb_neg w2)]; exact no (fun e => w2 e.2)
  have q : (I 21 0 0 + a2).toInt = t 0 + a2.toInt := by rw [z_add (by omega) (by omega), s0]
  rw [if_neg (by rw [zb_pos w2]; decide), gb_124_31]
  refine m_lightAt hc.2.2.2.2.2.2.2.2.1 (hC.2.2.2.2.2.2 0 (by decide)) (by omega) (by omega) fun I1 x hF1 hx => ?_
  rw [Option.toList_some, List.singleton_append, gb_124_48]
  exact K I1 _ hF1 (by unfold gLit; rw [if_pos ⟨w1, w2⟩, hx, q])
theorem m_lightP0 {a1 a2 : Int32} (h10 : I 10 0 10 = 0) (K : ∀ x : Int32, x.toInt = -1 → Q (some (.inl x)) (gwd S I J h)) : (gq (d + 4) 124 0 [some (.inr (.inr (some (10, 0)))), some (.inl (a1)), some (.inl (a2))] [] (gwd S I J h) Q) := by
  rw [gb_124_0, if_pos h10, gb_124_29, gb_124_30]
  exact K _ rfl
theorem m_keptP {a1 a2 : Int32} {lg : Nat → Int} {nl : Int} {ac : List (gSt × Int)} (hp : kPa I lg nl ac) (hn : 0 ≤ nl ∧ nl ≤ 99) (K : ∀ x : Int32, x.toInt = gKept lg nl a1.toInt a2.toInt → Q (some (.inl x)) (gwd S I J h)) : (gq (d + 3) 125 0 [some (.inr (.inr (some (10, 0)))), some (.inl (a1)), some (.inl (a2))] [] (gwd S I J h) Q) := by
  rw [gb_125_0]
  refine m_keptAt hp hn fun x hx => ?_
  rw [Option.toList_some, List.singleton_append, gb_125_9]
  exact K x hx
theorem m_fault {a1 : Int32} (K : Q (some (.inl (if a1 = 0 then I 10 0 12 else if a1 = 1 then I 10 0 13 else Int32.ofInt (-1)))) (gwd S I J h)) : (gq d 119 0 [some (.inr (.inr (some (10, 0)))), some (.inl (a1))] [] (gwd S I J h) Q) := by
  rw [gb_119_0]
  by_cases w0 : a1 = 0
  · rw [if_pos w0] at K; rw [if_pos w0, gb_119_4, gb_119_24]; exact K
  rw [if_neg w0] at K
  rw [if_neg w0, gb_119_11]
  by_cases w1 : a1 = 1
  · rw [if_pos w1] at K; rw [if_pos w1, gb_119_16, gb_119_24]; exact K
  rw [if_neg w1] at K
  rw [if_neg w1, gb_119_23, gb_119_24]; exact K
theorem m_endTo {a1 : Int32} {ln : Int} {rf : Nat → Int32} (hl : (I 11 0 1).toInt = ln) (hf : kRf I rf) (K0 : ¬ (0 ≤ a1.toInt ∧ a1.toInt ≤ ln) → ∀ (I' : Nat → Nat → Nat → Int32), (∀ k i j, ¬ ((k = 33 ∧ i = 0)) → I' k i j = I k i j) → kRf I' (gRef rf 0) → Q (some (.inl 0)) (gwd S I' J h)) (K1 : 0 ≤ a1.toInt ∧ a1.toInt ≤ ln → Q (some (.inl 1)) (gwd S (gup I 11 0 1 a1) J h)) : (gq (d + 2) 117 0 [some (.inr (.inr (some (10, 0)))), some (.inl (a1))] [] (gwd S I J h) Q) := by
  have no : ¬ (0 ≤ a1.toInt ∧ a1.toInt ≤ ln) → (gq (d + 2) 117 15 [some (.inr (.inr (some (10, 0)))), some (.inl (a1))] [] (gwd S I J h) Q) := fun w => by
    rw [gb_117_15]
    refine m_refuseB (w := 0) rfl (by decide) hf fun I1 hF1 hf1 => ?_
    rw [Option.toList_some, List.singleton_append, gb_117_20, g_t0, true_and]
    exact K0 w I1 hF1 hf1
  rw [gb_117_0]
  by_cases w1 : 0 ≤ a1.toInt
  case neg => rw [if_pos (by rw [z_lt, z_0]; omega)]; exact no (by omega)
  rw [if_neg (by rw [z_lt, z_0]; omega), gb_117_4]
  by_cases w2 : a1.toInt ≤ ln
  · rw [if_pos (by rw [z_le]; omega), gb_117_21]; exact K1 ⟨w1, w2⟩
  · rw [if_neg (by rw [z_le]; omega)]; exact no (by omega)
