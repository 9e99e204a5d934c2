/-! The class: few, odds. -/
theorem zi_and (a b : Nat) : Int32.ofNat a &&& Int32.ofNat b = Int32.ofNat (a &&& b) := by
  apply Int32.toBitVec_inj.1
  show BitVec.ofNat 32 a &&& BitVec.ofNat 32 b = BitVec.ofNat 32 (a &&& b)
  apply BitVec.eq_of_getLsbD_eq
  intro i hi
  simp [hi]
theorem zi_or (a b : Nat) : Int32.ofNat a ||| Int32.ofNat b = Int32.ofNat (a ||| b) := by
  apply Int32.toBitVec_inj.1
  show BitVec.ofNat 32 a ||| BitVec.ofNat 32 b = BitVec.ofNat 32 (a ||| b)
  apply BitVec.eq_of_getLsbD_eq
  intro i hi
  simp [hi]
theorem zi_xor (a b : Nat) : Int32.ofNat a ^^^ Int32.ofNat b = Int32.ofNat (a ^^^ b) := by
  apply Int32.toBitVec_inj.1
  show BitVec.ofNat 32 a ^^^ BitVec.ofNat 32 b = BitVec.ofNat 32 (a ^^^ b)
  apply BitVec.eq_of_getLsbD_eq
  intro i hi
  simp [hi]
theorem zi_i {n : Nat} (h : n < 2147483648) : (Int32.ofNat n).toInt = n := by rw [Int32.toInt_ofNat']; exact z_bm (by omega) (by omega)
theorem all_tbl : ∀ n, n ≤ 8 → ((1 : Int32) <<< (Int32.ofNat n &&& 31)) - 1 = Int32.ofNat (2 ^ n - 1) := by decide +kernel
theorem one_tbl : ∀ n, n < 8 → ((1 : Int32) <<< (Int32.ofNat n &&& 31)) = Int32.ofNat (2 ^ n) := by decide +kernel
theorem oth_tbl : ∀ n, n ≤ 8 → ∀ b, b < 2 ^ n → Int32.ofNat (2 ^ n - 1) &&& (Int32.ofNat b ^^^ Int32.ofInt (-1)) = Int32.ofNat (2 ^ n - 1 - b) := by decide +kernel
def zbc (a0 : Int32) : Int32 := ((((((((a0 - ((((a0 : Int32).toUInt32 >>> ((1 : Int32).toUInt32 &&& Int32.toUInt32 31)).toInt32) &&& 1431655765)) &&& 858993459) + ((((a0 - ((((a0 : Int32).toUInt32 >>> ((1 : Int32).toUInt32 &&& Int32.toUInt32 31)).toInt32) &&& 1431655765) : Int32).toUInt32 >>> ((2 : Int32).toUInt32 &&& Int32.toUInt32 31)).toInt32) &&& 858993459)) + (((((a0 - ((((a0 : Int32).toUInt32 >>> ((1 : Int32).toUInt32 &&& Int32.toUInt32 31)).toInt32) &&& 1431655765)) &&& 858993459) + ((((a0 - ((((a0 : Int32).toUInt32 >>> ((1 : Int32).toUInt32 &&& Int32.toUInt32 31)).toInt32) &&& 1431655765) : Int32).toUInt32 >>> ((2 : Int32).toUInt32 &&& Int32.toUInt32 31)).toInt32) &&& 858993459) : Int32).toUInt32 >>> ((4 : Int32).toUInt32 &&& Int32.toUInt32 31)).toInt32)) &&& 252645135) + (((((((a0 - ((((a0 : Int32).toUInt32 >>> ((1 : Int32).toUInt32 &&& Int32.toUInt32 31)).toInt32) &&& 1431655765)) &&& 858993459) + ((((a0 - ((((a0 : Int32).toUInt32 >>> ((1 : Int32).toUInt32 &&& Int32.toUInt32 31)).toInt32) &&& 1431655765) : Int32).toUInt32 >>> ((2 : Int32).toUInt32 &&& Int32.toUInt32 31)).toInt32) &&& 858993459)) + (((((a0 - ((((a0 : Int32).toUInt32 >>> ((1 : Int32).toUInt32 &&& Int32.toUInt32 31)).toInt32) &&& 1431655765)) &&& 858993459) + ((((a0 - ((((a0 : Int32).toUInt32 >>> ((1 : Int32).toUInt32 &&& Int32.toUInt32 31)).toInt32) &&& 1431655765) : Int32).toUInt32 >>> ((2 : Int32).toUInt32 &&& Int32.toUInt32 31)).toInt32) &&& 858993459) : Int32).toUInt32 >>> ((4 : Int32).toUInt32 &&& Int32.toUInt32 31)).toInt32)) &&& 252645135 : Int32).toUInt32 >>> ((8 : Int32).toUInt32 &&& Int32.toUInt32 31)).toInt32)) + ((((((((a0 - ((((a0 : Int32).toUInt32 >>> ((1 : Int32).toUInt32 &&& Int32.toUInt32 31)).toInt32) &&& 1431655765)) &&& 858993459) + ((((a0 - ((((a0 : Int32).toUInt32 >>> ((1 : Int32).toUInt32 &&& Int32.toUInt32 31)).toInt32) &&& 1431655765) : Int32).toUInt32 >>> ((2 : Int32).toUInt32 &&& Int32.toUInt32 31)).toInt32) &&& 858993459)) + (((((a0 - ((((a0 : Int32).toUInt32 >>> ((1 : Int32).toUInt32 &&& Int32.toUInt32 31)).toInt32) &&& 1431655765)) &&& 858993459) + ((((a0 - ((((a0 : Int32).toUInt32 >>> ((1 : Int32).toUInt32 &&& Int32.toUInt32 31)).toInt32) &&& 1431655765) : Int32).toUInt32 >>> ((2 : Int32).toUInt32 &&& Int32.toUInt32 31)).toInt32) &&& 858993459) : Int32).toUInt32 >>> ((4 : Int32).toUInt32 &&& Int32.toUInt32 31)).toInt32)) &&& 252645135) + (((((((a0 - ((((a0 : Int32).toUInt32 >>> ((1 : Int32).toUInt32 &&& Int32.toUInt32 31)).toInt32) &&& 1431655765)) &&& 858993459) + ((((a0 - ((((a0 : Int32).toUInt32 >>> ((1 : Int32).toUInt32 &&& Int32.toUInt32 31)).toInt32) &&& 1431655765) : Int32).toUInt32 >>> ((2 : Int32).toUInt32 &&& Int32.toUInt32 31)).toInt32) &&& 858993459)) + (((((a0 - ((((a0 : Int32).toUInt32 >>> ((1 : Int32).toUInt32 &&& Int32.toUInt32 31)).toInt32) &&& 1431655765)) &&& 858993459) + ((((a0 - ((((a0 : Int32).toUInt32 >>> ((1 : Int32).toUInt32 &&& Int32.toUInt32 31)).toInt32) &&& 1431655765) : Int32).toUInt32 >>> ((2 : Int32).toUInt32 &&& Int32.toUInt32 31)).toInt32) &&& 858993459) : Int32).toUInt32 >>> ((4 : Int32).toUInt32 &&& Int32.toUInt32 31)).toInt32)) &&& 252645135 : Int32).toUInt32 >>> ((8 : Int32).toUInt32 &&& Int32.toUInt32 31)).toInt32) : Int32).toUInt32 >>> ((16 : Int32).toUInt32 &&& Int32.toUInt32 31)).toInt32)) &&& 63)
theorem zbc_tbl : ∀ n, n < 256 → zbc (Int32.ofNat n) = Int32.ofNat (gPc n) ∧ gPc n ≤ 8 := by decide +kernel
variable {d S : Nat} {h : Nat × Option gNm} {I : Nat → Nat → Nat → Int32} {J : Nat → Nat → Nat → Int64} {Q : Option gV → gW → Prop}
theorem m_bitc {a0 : Int32} : (gq d 285 0 [some (.inl (a0))] [] (gwd S I J h) Q) ↔ Q (some (.inl (zbc a0))) (gwd S I J h) := gb_285_0 _ _ _ _ _ _ _
theorem gFew_fit {C : gCo} {t : gSt} {b : Nat} {best : Int} : gFewOk C t b best = true ↔ (b &&& ((t 4).toNat ||| gHav t) = 0 ∧ (best = -1 ∨ gPc b < gPc best.toNat) ∧ (gThrough C (sUp t 4 ((2 ^ (C.1 2).toNat - 1 - b : Nat) : Int))).1 ≠ -1) := decide_eq_true_iff
theorem m_few_loop {i1 i2 N : Nat} {C : gCo} {t : gSt} {a4 a5 : Int32} (hc : cOk C) (hto : tOk C t) (h9 : t 0 ≤ 999) (hi2 : i2 ≠ 1 ∧ i2 ≠ 2) (hN : (C.1 2).toNat = N) (h4 : a4 = Int32.ofNat (2 ^ N - 1)) (h5 : a5 = Int32.ofNat (gHav t)) (hh : gHav t < 256) : ∀ (n b : Nat) (best m0 : Int) (I : Nat → Nat → Nat → Int32) (a3 a6 : Int32) (x7 x8 : Option gV), b + n = 2 ^ N → a6 = Int32.ofNat b → a3.toInt = best → -1 ≤ best → best < 256 → kCo I i1 C → kS I 1 (sUp t 4 m0) → (I 21 i2 4).toInt = t 4 →
    (∀ (I' : Nat → Nat → Nat → Int32) x, (∀ k i j, ¬ ((k = 14 ∧ i = i1 ∧ (j = 3 ∨ j = 4 ∨ j = 5 ∨ j = 6)) ∨ (k = 16 ∧ i = i1) ∨ (k = 18 ∧ i = i1) ∨ (k = 21 ∧ i = 2) ∨ (k = 22 ∧ i = 2) ∨ (k = 21 ∧ i = 1) ∨ (k = 22 ∧ i = 1)) → I' k i j = I k i j) → x.toInt = gFewF C t n b best → Q (some (.inl x)) (gwd S I' J h)) → (gq (d + 6) 5 42 [some (.inr (.inr (some (20, 0)))), some (.inr (.inr (some (34, i1)))), some (.inr (.inr (some (21, i2)))), some (.inl (a3)), some (.inl (a4)), some (.inl (a5)), some (.inl (a6)), x7, x8] [] (gwd S I J h) Q)
  | 0, b, best, m0, I, a3, a6, x7, x8, hn, h6, h3, hb0, hb1, hC, hS, hs4, K => by
    have r2 := hc.2.2.1
    have hN8 : N ≤ 8 := by omega
    have hp : 2 ^ N ≤ 256 := Nat.pow_le_pow_right (n := 2) (by decide) hN8
    have hp1 : 0 < 2 ^ N := Nat.pow_pos (by decide)
    rw [gb_5_42, if_pos (by rw [z_lt, h4, h6, zi_i (by omega), zi_i (by omega)]; omega), gb_5_139]
    exact K I _ (fun _ _ _ _ => rfl) h3
  | n + 1, b, best, m0, I, a3, a6, x7, x8, hn, h6, h3, hb0, hb1, hC, hS, hs4, K => by
    have r2 := hc.2.2.1
    have r4 := hto.2.2.2.2.1
    have hN8 : N ≤ 8 := by omega
    have hp : 2 ^ N ≤ 256 := Nat.pow_le_pow_right (n := 2) (by decide) hN8
    have e1 : (1 : Int32).toInt = 1 := rfl
    have e6 : a6.toInt = b := by rw [h6, zi_i (by omega)]
    have e4 : I 21 i2 4 = Int32.ofNat (t 4).toNat := by rw [← hs4]; exact z_ofn _ (by omega)
    have esu : ∀ v, sUp (sUp t 4 m0) 4 v = sUp t 4 v := fun v => by funext j; simp only [sUp]; split <;> rfl
    have hand : b &&& ((t 4).toNat ||| gHav t) < 256 := Nat.lt_of_le_of_lt Nat.and_le_left (by omega)
    unfold gFewF at K
    have next : ∀ (best' : Int) (m1 : Int) (I1 : Nat → Nat → Nat → Int32) (a3 a7 a8 : Int32), best' = (if gFewOk C t b best then (b : Int) else best) → (∀ k i j, ¬ ((k = 14 ∧ i = i1 ∧ (j = 3 ∨ j = 4 ∨ j = 5 ∨ j = 6)) ∨ (k = 16 ∧ i = i1) ∨ (k = 18 ∧ i = i1) ∨ (k = 21 ∧ i = 2) ∨ (k = 22 ∧ i = 2) ∨ (k = 21 ∧ i = 1) ∨ (k = 22 ∧ i = 1)) → I1 k i j = I k i j) → a3.toInt = best' → -1 ≤ best' → best' < 256 → kS I1 1 (sUp t 4 m1) → (gq (d + 6) 5 133 [some (.inr (.inr (some (20, 0)))), some (.inr (.inr (some (34, i1)))), some (.inr (.inr (some (21, i2)))), some (.inl (a3)), some (.inl (a4)), some (.inl (a5)), some (.inl (a6)), some (.inl (a7)), some (.inl (a8))] [] (gwd S I1 J h) Q) := fun best' m1 I1 a3 a7 a8 hb' hF h3 hb0 hb1 hS1 => by
      rw [gb_5_133]
      rw [← hb'] at K
      exact m_few_loop hc hto h9 hi2 hN h4 h5 hh n (b + 1) best' m1 I1 _ _ _ _ (by omega) (z_inj (by rw [z_add (by omega) (by omega), e6, zi_i (by omega), e1]; rfl)) h3 hb0 hb1 (kCo_congr hC fun k j hk => hF _ _ _ (by omega)) hS1 (by rw [hF _ _ _ (by omega)]; exact hs4) fun I2 x hF2 hx => K I2 x (fun k i j hn => by rw [hF2 _ _ _ hn, hF _ _ _ hn]) hx
    rw [gb_5_42, if_neg (by rw [z_lt, h4, e6, zi_i (by omega)]; omega), gb_5_49, e4, h5, zi_or, h6, zi_and]
    have hw : (Int32.ofNat (b &&& ((t 4).toNat ||| gHav t)) = 0) ↔ b &&& ((t 4).toNat ||| gHav t) = 0 := by rw [z_eq, zi_i (by omega), z_0]; omega
    have go : ∀ (p q : Int32) (x8 : Option gV), (p = 0 ∨ p = 1) → (q = 0 ∨ q = 1) → (p = 1 ↔ b &&& ((t 4).toNat ||| gHav t) = 0) → (q = 1 ↔ (best = -1 ∨ gPc b < gPc best.toNat)) → (gq (d + 6) 5 91 [some (.inr (.inr (some (20, 0)))), some (.inr (.inr (some (34, i1)))), some (.inr (.inr (some (21, i2)))), some (.inl (a3)), some (.inl (a4)), some (.inl ((Int32.ofNat (gHav t)))), some (.inl ((Int32.ofNat b))), some (.inl (p)), x8] [.inl (q)] (gwd S I J h) Q) := fun p q x8 hp01 hq01 hp1 hq1 => by
      rw [← h5, ← h6, gb_5_91]
      by_cases hp0 : p = 0
      · rw [if_pos hp0]
        refine next best m0 I _ _ _ ?_ (fun _ _ _ _ => rfl) h3 hb0 hb1 hS
        rw [if_neg]
        exact fun e => absurd (hp1.mpr (gFew_fit.mp e).1) (by rw [hp0]; decide)
      · rw [if_neg hp0, gb_5_98]
        by_cases hq0 : q = 0
        · rw [if_pos hq0]
          refine next best m0 I _ _ _ ?_ (fun _ _ _ _ => rfl) h3 hb0 hb1 hS
          rw [if_neg]
          exact fun e => absurd (hq1.mpr (gFew_fit.mp e).2.1) (by rw [hq0]; decide)
        · have w1 := hp1.mp (hp01.resolve_left hp0)
          have w2 := hq1.mp (hq01.resolve_left hq0)
          have hx : (a4 &&& (a6 ^^^ Int32.ofInt (-1))).toInt = ((2 ^ N - 1 - b : Nat) : Int) := by
            rw [h4, h6, oth_tbl N hN8 b (by omega), zi_i (by omega)]
          rw [if_neg hq0, gb_5_103, gb_5_112]
          have hS1 : kS (gup I 21 1 4 (a4 &&& (a6 ^^^ Int32.ofInt (-1)))) 1 (sUp t 4 ((2 ^ N - 1 - b : Nat) : Int)) := by rw [← esu]; exact kS_up4 hS hx
          refine m_htt hc (kCo_congr hC fun k j hk => u_ne (by omega)) (tOk_up4 hto _ (by omega)) (by rw [sUp_ne (by decide)]; exact h9) hS1 (by decide) fun I1 x hF1 _ hx2 => ?_
          have hF : (∀ k i j, ¬ ((k = 14 ∧ i = i1 ∧ (j = 3 ∨ j = 4 ∨ j = 5 ∨ j = 6)) ∨ (k = 16 ∧ i = i1) ∨ (k = 18 ∧ i = i1) ∨ (k = 21 ∧ i = 2) ∨ (k = 22 ∧ i = 2) ∨ (k = 21 ∧ i = 1) ∨ (k = 22 ∧ i = 1)) → I1 k i j = I k i j) := fun k i j hn => by rw [hF1 _ _ _ (by omega), u_ne (by omega)]
          have hS2 : kS I1 1 (sUp t 4 ((2 ^ N - 1 - b : Nat) : Int)) := kS_congr hS1 (fun j => hF1 _ _ _ (by omega)) (fun j => hF1 _ _ _ (by omega))
          rw [Option.toList_some, List.singleton_append, gb_5_126, gb_5_127]
          by_cases hz : (gThrough C (sUp t 4 ((2 ^ N - 1 - b : Nat) : Int))).1 = -1
          · rw [if_pos ((gThr_str hx2).mpr hz)]
            refine next best _ I1 _ _ _ ?_ hF h3 hb0 hb1 hS2
            rw [if_neg]
            exact fun e => (gFew_fit.mp e).2.2 (by rw [hN]; exact hz)
          · rw [if_neg (fun e => hz ((gThr_str hx2).mp e)), gb_5_130]
            refine next b _ I1 _ _ _ ?_ hF e6 (by omega) (by omega) hS2
            rw [if_pos (gFew_fit.mpr ⟨w1, w2, by rw [hN]; exact hz⟩)]
    have second : ∀ (p : Int32) (x7 x8 : Option gV), (p = 0 ∨ p = 1) → (p = 1 ↔ b &&& ((t 4).toNat ||| gHav t) = 0) → (gq (d + 6) 5 67 [some (.inr (.inr (some (20, 0)))), some (.inr (.inr (some (34, i1)))), some (.inr (.inr (some (21, i2)))), some (.inl (a3)), some (.inl (a4)), some (.inl ((Int32.ofNat (gHav t)))), some (.inl ((Int32.ofNat b))), x7, x8] [.inl (p)] (gwd S I J h) Q) := fun p x7 x8 hp01 hp1 => by
      rw [gb_5_67, gb_5_71]
      by_cases hm : best = -1
      · rw [if_pos (z_inj (by rw [h3, hm, z_m1])), gb_5_86]
        exact go p 1 _ hp01 (Or.inr rfl) hp1 ⟨fun _ => Or.inl hm, fun _ => rfl⟩
      · have e3 : a3 = Int32.ofNat best.toNat := by rw [← h3]; exact z_ofn _ (by omega)
        have p1 := zbc_tbl b (by omega)
        have p2 := zbc_tbl best.toNat (by omega)
        rw [if_neg (fun e => hm (by rw [← h3, e, z_m1])), gb_5_74, m_bitc, Option.toList_some, List.singleton_append, gb_5_79, m_bitc, Option.toList_some, List.singleton_append, gb_5_83]
        have hle : (zbc a3 ≤ zbc (Int32.ofNat b)) ↔ gPc best.toNat ≤ gPc b := by
          rw [e3, p1.1, p2.1, z_le, zi_i (by omega), zi_i (by omega)]; omega
        by_cases hl : zbc a3 ≤ zbc (Int32.ofNat b)
        · rw [if_pos hl, gb_5_90]
          exact go p 0 _ hp01 (Or.inl rfl) hp1 ⟨fun e => absurd e (by decide), fun e => by have := hle.mp hl; omega⟩
        · rw [if_neg hl, gb_5_86]
          exact go p 1 _ hp01 (Or.inr rfl) hp1 ⟨fun _ => Or.inr (Nat.lt_of_not_le fun e => hl (hle.mpr e)), fun _ => rfl⟩
    by_cases hw0 : b &&& ((t 4).toNat ||| gHav t) = 0
    · rw [if_pos (hw.mpr hw0), gb_5_62]
      exact second 1 _ _ (Or.inr rfl) ⟨fun _ => hw0, fun _ => rfl⟩
    · rw [if_neg (fun e => hw0 (hw.mp e)), gb_5_66]
      exact second 0 _ _ (Or.inl rfl) ⟨fun e => absurd e (by decide), fun e => absurd e hw0⟩
def gFew (C : gCo) (t : gSt) : Int := gFewF C t (2 ^ (C.1 2).toNat) 0 (-1)
theorem m_few {i1 i2 : Nat} {x3 x4 x5 x6 x7 x8 : Option gV} {C : gCo} {t : gSt} (hc : cOk C) (hC : kCo I i1 C) (hto : tOk C t) (h9 : t 0 ≤ 999) (hS : kS I i2 t) (hne : i2 ≠ 1 ∧ i2 ≠ 2)
    (K : ∀ (I' : Nat → Nat → Nat → Int32) x, (∀ k i j, ¬ ((k = 14 ∧ i = i1 ∧ (j = 3 ∨ j = 4 ∨ j = 5 ∨ j = 6)) ∨ (k = 16 ∧ i = i1) ∨ (k = 18 ∧ i = i1) ∨ (k = 21 ∧ i = 2) ∨ (k = 22 ∧ i = 2) ∨ (k = 21 ∧ i = 1) ∨ (k = 22 ∧ i = 1)) → I' k i j = I k i j) → x.toInt = gFew C t → Q (some (.inl x)) (gwd S I' J h)) : (gq (d + 6) 5 0 [some (.inr (.inr (some (20, 0)))), some (.inr (.inr (some (34, i1)))), some (.inr (.inr (some (21, i2)))), x3, x4, x5, x6, x7, x8] [] (gwd S I J h) Q) := by
  have r2 := hc.2.2.1
  have r3 := hto.2.2.2.1
  have s3 := hS.1 3 (by decide)
  rw [gb_5_0]
  refine m_copy (fun e => hne.1 e.symm) hS fun I1 hF1 hS1 => ?_
  have f3 := hF1 21 i2 3 (by omega)
  have c2 : (I1 34 i1 2).toInt = C.1 2 := by rw [hF1 _ _ _ (by omega)]; exact hC.1 2 (by decide)
  have eb : I1 34 i1 2 = Int32.ofNat (C.1 2).toNat := by rw [← c2]; exact z_ofn _ (by omega)
  have esu : sUp t 4 (t 4) = t := by
    funext j; simp only [sUp]; split
    · rename_i e; rw [e]
    · rfl
  rw [Option.toList_none, List.nil_append, gb_5_8, gb_5_9, eb, all_tbl _ (by omega), f3]
  have go : ∀ y : Int32, y = Int32.ofNat (gHav t) → gHav t < 256 → (gq (d + 6) 5 37 [some (.inr (.inr (some (20, 0)))), some (.inr (.inr (some (34, i1)))), some (.inr (.inr (some (21, i2)))), some (.inl ((Int32.ofInt (-1)))), some (.inl ((Int32.ofNat (2 ^ (C.1 2).toNat - 1)))), x5, x6, x7, x8] [.inl (y)] (gwd S I1 J h) Q) := fun y hy hh => by
    rw [gb_5_37]
    refine m_few_loop hc hto h9 hne rfl rfl hy hh (2 ^ (C.1 2).toNat) 0 (-1) (t 4) I1 _ _ _ _ (by omega) rfl z_m1 (by omega) (by omega) (kCo_congr hC fun k j hk => hF1 _ _ _ (by omega)) (by rw [esu]; exact hS1) (by rw [hF1 _ _ _ (by omega)]; exact hS.1 4 (by decide)) fun I2 x hF2 hx => K I2 x (fun k i j hn => by rw [hF2 _ _ _ hn, hF1 _ _ _ (by omega)]) hx
  by_cases hl : t 3 < 0
  · rw [if_pos (by rw [z_lt, z_0]; omega), gb_5_36]
    have e : gHav t = 0 := if_pos hl
    exact go 0 (by rw [e]; rfl) (by omega)
  · have e : gHav t = 2 ^ (t 3).toNat := if_neg hl
    have hp : 2 ^ (t 3).toNat < 2 ^ 8 := Nat.pow_lt_pow_right (by decide) (by omega)
    rw [if_neg (by rw [z_lt, z_0]; omega), gb_5_27]
    refine go _ ?_ (by omega)
    rw [e, f3, z_ofn (I 21 i2 3) (by omega), s3]
    exact one_tbl _ (by omega)
theorem gAli_r {C : gCo} {t : gSt} {l : Int} : 0 ≤ gAli C t l ∧ gAli C t l ≤ 1 := by unfold gAli; split <;> omega
theorem gAliS_r {C : gCo} {t : gSt} : ∀ {n : Nat} {l a : Int}, a ≤ gAliS C t n l a ∧ gAliS C t n l a ≤ a + n
  | 0, _, _ => ⟨Int.le_refl _, by show _ ≤ _ + 0; unfold gAliS; omega⟩
  | n + 1, l, a => by
    unfold gAliS
    have := @gAliS_r C t n (l + 1) (a + gAli C t l)
    have := @gAli_r C t l
    omega
theorem m_alight {i1 i2 : Nat} {a3 : Int32} {C : gCo} {t : gSt} (hc : cOk C) (hC : kCo I i1 C) (hto : tOk C t) (hS : kS I i2 t) (hne : i2 ≠ 2) (h3 : 0 ≤ a3.toInt ∧ a3.toInt ≤ 99)
    (K : ∀ (I' : Nat → Nat → Nat → Int32) x, (∀ k i j, ¬ ((k = 14 ∧ i = i1 ∧ (j = 3 ∨ j = 4 ∨ j = 5 ∨ j = 6)) ∨ (k = 16 ∧ i = i1) ∨ (k = 18 ∧ i = i1) ∨ (k = 21 ∧ i = 2) ∨ (k = 22 ∧ i = 2)) → I' k i j = I k i j) → x.toInt = gAli C t a3.toInt → Q (some (.inl x)) (gwd S I' J h)) : (gq (d + 5) 10 0 [some (.inr (.inr (some (20, 0)))), some (.inr (.inr (some (34, i1)))), some (.inr (.inr (some (21, i2)))), some (.inl (a3))] [] (gwd S I J h) Q) := by
  have r2 := hto.2.2.1
  have s2 := hS.1 2 (by decide)
  rw [gb_10_0]
  refine m_copy (fun e => hne e.symm) hS fun I1 hF1 hS1 => ?_
  have f2 := hF1 21 i2 2 (by omega)
  rw [Option.toList_none, List.nil_append, gb_10_8, m_max, Option.toList_some, List.singleton_append, gb_10_22, f2]
  have ez : (zmax 0 (I 21 i2 2 - a3)).toInt = max 0 (t 2 - a3.toInt) := by rw [zmax_i, z_0, z_sub (by omega) (by omega), s2]
  refine m_runHour hc (kCo_congr hC fun k j hk => by rw [u_ne (by omega), hF1 _ _ _ (by omega)]) (tOk_up2 hto (max 0 (t 2 - a3.toInt)) (by omega)) (kS_up2 hS1 ez) fun I2 x hF2 hS2 _ => ?_
  have g2 := hS2.1 2 (by decide)
  have hF : (∀ k i j, ¬ ((k = 14 ∧ i = i1 ∧ (j = 3 ∨ j = 4 ∨ j = 5 ∨ j = 6)) ∨ (k = 16 ∧ i = i1) ∨ (k = 18 ∧ i = i1) ∨ (k = 21 ∧ i = 2) ∨ (k = 22 ∧ i = 2)) → I2 k i j = I k i j) := fun k i j hn => by rw [hF2 _ _ _ (by omega), u_ne (by omega), hF1 _ _ _ (by omega)]
  rw [Option.toList_some, List.singleton_append, gb_10_37]
  by_cases hz : 0 < gHour C (sUp t 2 (max 0 (t 2 - a3.toInt))) 2
  · rw [if_neg (by rw [z_le, z_0]; omega), gb_10_48, gb_10_53]
    exact K I2 _ hF (by unfold gAli; rw [if_pos hz]; rfl)
  · rw [if_pos (by rw [z_le, z_0]; omega), gb_10_52, gb_10_53]
    exact K I2 _ hF (by unfold gAli; rw [if_neg hz]; rfl)
theorem m_odds_loop {i1 i2 : Nat} {C : gCo} {t : gSt} (hc : cOk C) (hto : tOk C t) (hne : i2 ≠ 2) : ∀ (n : Nat) (l a : Int) (I : Nat → Nat → Nat → Int32) (a3 a4 : Int32), l + n = 10 → 0 ≤ l → a4.toInt = l → a3.toInt = a → 0 ≤ a → a ≤ l → kCo I i1 C → kS I i2 t →
    (∀ (I' : Nat → Nat → Nat → Int32) a3 a4, (∀ k i j, ¬ ((k = 14 ∧ i = i1 ∧ (j = 3 ∨ j = 4 ∨ j = 5 ∨ j = 6)) ∨ (k = 16 ∧ i = i1) ∨ (k = 18 ∧ i = i1) ∨ (k = 21 ∧ i = 2) ∨ (k = 22 ∧ i = 2)) → I' k i j = I k i j) → a3.toInt = gAliS C t n l a → (gq (d + 6) 9 29 [some (.inr (.inr (some (20, 0)))), some (.inr (.inr (some (34, i1)))), some (.inr (.inr (some (21, i2)))), some (.inl (a3)), some (.inl (a4))] [] (gwd S I' J h) Q)) → (gq (d + 6) 9 5 [some (.inr (.inr (some (20, 0)))), some (.inr (.inr (some (34, i1)))), some (.inr (.inr (some (21, i2)))), some (.inl (a3)), some (.inl (a4))] [] (gwd S I J h) Q)
  | 0, l, a, I, a3, a4, hn, hl, h4, h3, ha, hal, hC, hS, K => by
    have e10 : (10 : Int32).toInt = 10 := rfl
    rw [gb_9_5, if_pos (by rw [z_le]; omega)]
    exact K I _ _ (fun _ _ _ _ => rfl) h3
  | n + 1, l, a, I, a3, a4, hn, hl, h4, h3, ha, hal, hC, hS, K => by
    have e10 : (10 : Int32).toInt = 10 := rfl
    have e1 : (1 : Int32).toInt = 1 := rfl
    rw [gb_9_5, if_neg (by rw [z_le]; omega), gb_9_12]
    refine m_alight hc hC hto hS hne (by omega) fun I1 x hF1 hx => ?_
    rw [h4] at hx
    have hr := @gAli_r C t l
    rw [Option.toList_some, List.singleton_append, gb_9_21]
    exact m_odds_loop hc hto hne n (l + 1) (a + gAli C t l) I1 _ _ (by omega) (by omega) (by rw [z_add (by omega) (by omega), h4, e1]) (by rw [z_add (by omega) (by omega), h3, hx]) (by omega) (by omega) (kCo_congr hC fun k j hk => hF1 _ _ _ (by omega)) (kS_congr hS (fun j => hF1 _ _ _ (by omega)) (fun j => hF1 _ _ _ (by omega))) fun I2 y3 y4 hF2 g3 => K I2 y3 y4 (fun k i j hn => by rw [hF2 _ _ _ hn, hF1 _ _ _ hn]) g3
theorem m_odds {i1 i2 : Nat} {x3 x4 : Option gV} {C : gCo} {t : gSt} (hc : cOk C) (hC : kCo I i1 C) (hto : tOk C t) (hS : kS I i2 t) (hne : i2 ≠ 2)
    (K : ∀ (I' : Nat → Nat → Nat → Int32) x, (∀ k i j, ¬ ((k = 14 ∧ i = i1 ∧ (j = 3 ∨ j = 4 ∨ j = 5 ∨ j = 6)) ∨ (k = 16 ∧ i = i1) ∨ (k = 18 ∧ i = i1) ∨ (k = 21 ∧ i = 2) ∨ (k = 22 ∧ i = 2)) → I' k i j = I k i j) → x.toInt = gOdds C t → Q (some (.inl x)) (gwd S I' J h)) : (gq (d + 6) 9 0 [some (.inr (.inr (some (20, 0)))), some (.inr (.inr (some (34, i1)))), some (.inr (.inr (some (21, i2)))), x3, x4] [] (gwd S I J h) Q) := by
  have e10 : (10 : Int32).toInt = 10 := rfl
  have e100 : (100 : Int32).toInt = 100 := rfl
  have r5 := hc.2.2.2.2.2.1
  rw [gb_9_0]
  refine m_odds_loop hc hto hne 10 0 0 I _ _ rfl (by omega) rfl rfl (by omega) (by omega) hC hS fun I1 y3 y4 hF1 g3 => ?_
  have hC1 : kCo I1 i1 C := kCo_congr hC fun k j hk => hF1 _ _ _ (by omega)
  have c5 := hC1.1 5 (by decide)
  rw [gb_9_29]
  refine m_alight hc hC1 hto (kS_congr hS (fun j => hF1 _ _ _ (by omega)) (fun j => hF1 _ _ _ (by omega))) hne (by rw [z_0]; omega) fun I2 x hF2 hx => ?_
  rw [z_0] at hx
  have f5 := hF2 34 i1 5 (by omega)
  have hr := @gAli_r C t 0
  have hs := @gAliS_r C t 10 0 0
  rw [Option.toList_some, List.singleton_append, gb_9_46, f5]
  refine K I2 _ (fun k i j hn => by rw [hF2 _ _ _ hn, hF1 _ _ _ hn]) ?_
  have e2 : (100 - I1 34 i1 5).toInt = 100 - C.1 5 := by rw [z_sub (by omega) (by omega), e100, c5]
  have e3 : ((100 - I1 34 i1 5) * 10).toInt = (100 - C.1 5) * 10 := by rw [z_mul (by rw [e2, e10]; omega) (by rw [e2, e10]; omega), e2, e10]
  have p1 : 0 ≤ (100 - C.1 5) * 10 * gAli C t 0 ∧ (100 - C.1 5) * 10 * gAli C t 0 ≤ 1000 := by
    have : gAli C t 0 = 0 ∨ gAli C t 0 = 1 := by omega
    rcases this with e | e <;> rw [e] <;> omega
  have p2 : 0 ≤ C.1 5 * gAliS C t 10 0 0 ∧ C.1 5 * gAliS C t 10 0 0 ≤ 1000 := by
    refine ⟨Int.mul_nonneg r5.1 hs.1, ?_⟩
    have := Int.mul_le_mul r5.2 hs.2 hs.1 (by omega)
    omega
  have e4 : ((100 - I1 34 i1 5) * 10 * x).toInt = (100 - C.1 5) * 10 * gAli C t 0 := by rw [z_mul (by rw [e3, hx]; omega) (by rw [e3, hx]; omega), e3, hx]
  have e5 : (I1 34 i1 5 * y3).toInt = C.1 5 * gAliS C t 10 0 0 := by rw [z_mul (by rw [c5, g3]; omega) (by rw [c5, g3]; omega), c5, g3]
  rw [z_add (by rw [e4, e5]; omega) (by rw [e4, e5]; omega), e4, e5]
  rfl
