/-! The class lets an hour go by. -/
variable {d S : Nat} {h : Nat × Option gNm} {I : Nat → Nat → Nat → Int32} {J : Nat → Nat → Nat → Int64} {Q : Option gV → gW → Prop}
theorem m_advance {i1 : Nat} {a1 a2 : Int32} (h0 : 0 ≤ (I 21 i1 3).toInt) (h8 : (I 21 i1 3).toInt < 8) : (gq d 98 0 [some (.inr (.inr (some (21, i1)))), some (.inl (a1)), some (.inl (a2))] [] (gwd S I J h) Q) ↔ Q none (gwd S (gup (gup (gup I 22 i1 (I 21 i1 3).toInt.toNat a1) 21 i1 1 a1) 21 i1 3 (if a2.toInt = -1 then I 21 i1 3 else a2)) J h) := by
  have e8 : (Int32.ofNat 8).toInt = 8 := rfl
  have e : (0 ≤ (I 21 i1 3).toInt ∧ (I 21 i1 3).toInt < ((8 : Nat) : Int)) = True := by simp; omega
  rw [gb_98_0, if_neg (by rw [z_lt, z_0]; omega), gb_98_7, if_neg (by rw [z_le]; omega)]
  simp only [gb_98_19, gb_98_29, gb_98_37, gb_98_40, gb_98_47, gb_98_48, g_in, z_n, e, true_and, z_eq, z_m1]
  simp only [u_j (show (3 : Nat) ≠ 1 by decide), u_k (show (21 : Nat) ≠ 22 by decide)]
  split <;> exact Iff.rfl
theorem m_scan_in {i1 i2 : Nat} {C : gCo} {t : gSt} {m : Int} {a3 a4 a5 a6 : Int32} (hc : cOk C) (hto : tOk C t) (h4 : a4.toInt = t 3) (h6 : a6.toInt = m) (hm : 0 ≤ m ∧ m ≤ 100) : ∀ (n b : Nat) (I : Nat → Nat → Nat → Int32) (a7 a8 : Int32) (x9 : Option gV), b + n = 8 → a8.toInt = b → a7.toInt = -1 → kCo I i1 C → kS I i2 t →
    (∀ (I' : Nat → Nat → Nat → Int32) a7 a8 x9, (∀ k i j, ¬ ((k = 14 ∧ i = i1 ∧ (j = 3 ∨ j = 4 ∨ j = 5 ∨ j = 6)) ∨ (k = 16 ∧ i = i1) ∨ (k = 18 ∧ i = i1)) → I' k i j = I k i j) → a7.toInt = gFst (gCan C t m) n b → (gq (d + 4) 75 160 [some (.inr (.inr (some (19, 0)))), some (.inr (.inr (some (34, i1)))), some (.inr (.inr (some (21, i2)))), some (.inl (a3)), some (.inl (a4)), some (.inl (a5)), some (.inl (a6)), some (.inl (a7)), some (.inl (a8)), x9] [] (gwd S I' J h) Q)) → (gq (d + 4) 75 81 [some (.inr (.inr (some (19, 0)))), some (.inr (.inr (some (34, i1)))), some (.inr (.inr (some (21, i2)))), some (.inl (a3)), some (.inl (a4)), some (.inl (a5)), some (.inl (a6)), some (.inl (a7)), some (.inl (a8)), x9] [] (gwd S I J h) Q)
  | 0, b, I, a7, a8, x9, hn, h8, h7, hC, hS, k => by
    have e8 : (8 : Int32).toInt = 8 := rfl
    rw [gb_75_81, if_pos (by rw [z_le]; omega)]
    exact k I _ _ _ (fun _ _ _ _ => rfl) h7
  | n + 1, b, I, a7, a8, x9, hn, h8, h7, hC, hS, k => by
    have e8 : (8 : Int32).toInt = 8 := rfl
    have e1 : (1 : Int32).toInt = 1 := rfl
    have en : a8.toInt.toNat = b := by omega
    have c2 := hC.1 2 (by decide)
    have s0 := hS.1 0 (by decide)
    have s1 := hS.1 1 (by decide)
    have s2 := hS.1 2 (by decide)
    have s4 := hS.1 4 (by decide)
    have sb := hS.2 b (by omega)
    have ea : (a8 + 1).toInt = ((b + 1 : Nat) : Int) := by rw [z_add (by omega) (by omega), h8, e1]; rfl
    have e7 : a7 = Int32.ofInt (-1) := z_inj (by rw [h7, z_m1])
    have skip : ∀ (I1 : Nat → Nat → Nat → Int32) (a7 : Int32) (x9 : Option gV), (∀ k i j, ¬ ((k = 14 ∧ i = i1 ∧ (j = 3 ∨ j = 4 ∨ j = 5 ∨ j = 6)) ∨ (k = 16 ∧ i = i1) ∨ (k = 18 ∧ i = i1)) → I1 k i j = I k i j) → a7.toInt = -1 → gCan C t m b = false → (gq (d + 4) 75 154 [some (.inr (.inr (some (19, 0)))), some (.inr (.inr (some (34, i1)))), some (.inr (.inr (some (21, i2)))), some (.inl (a3)), some (.inl (a4)), some (.inl (a5)), some (.inl (a6)), some (.inl (a7)), some (.inl (a8)), x9] [] (gwd S I1 J h) Q) := fun I1 a7 x9 hF h7 hno => by
      rw [gb_75_154]
      refine m_scan_in hc hto h4 h6 hm n (b + 1) I1 a7 _ x9 (by omega) ea h7 (kCo_congr hC fun k j hk => hF _ _ _ (by omega)) (kS_congr hS (fun j => hF _ _ _ (by omega)) (fun j => hF _ _ _ (by omega))) fun I' a7 a8 x9 hF2 g => k I' _ _ _ (fun k i j hn => by rw [hF2 _ _ _ hn, hF _ _ _ hn]) ?_
      unfold gFst; rw [hno]; exact g
    rw [gb_75_81, if_neg (by rw [z_le]; omega), gb_75_88, gb_75_91, if_pos e7, gb_75_94]
    by_cases hr : t 3 = b
    · rw [if_pos (by rw [z_eq]; omega)]
      exact skip I _ _ (fun _ _ _ _ => rfl) h7 (by simp [gCan, hr])
    rw [if_neg (by rw [z_eq]; omega), gb_75_101, m_hasBearer, Option.toList_some, List.singleton_append, gb_75_107]
    by_cases hb : (b : Int) < C.1 2
    case neg =>
      rw [if_pos (by rw [zb_0]; omega)]
      exact skip I _ _ (fun _ _ _ _ => rfl) h7 (by simp [gCan, hb])
    rw [if_neg (by rw [zb_0]; exact fun e => e (by omega)), gb_75_110, m_waitsAt (by omega) (by omega), Option.toList_some, List.singleton_append, gb_75_118, en, sb]
    have hbit := z_bit (x := I 21 i2 4) (a := a8) (b := b) (by have := hto.2.2.2.2.1; omega) (by have := hto.2.2.2.2.1; omega) h8 (by omega)
    rw [s4] at hbit
    have r7 := hto.2.2.2.2.2.2 b hb
    have rp := (hc.2.2.2.2.2.2.1 b hb).2
    have cp := hC.2.2.1 b (by omega)
    have r0 := hto.1
    have r1 := hto.2.1
    have r2 := hto.2.2.1
    have rM := hc.2.1
    by_cases hw : t (10 + b) = m ∧ gBit (t 4) b = false
    case neg =>
      rw [if_pos (by rw [zb_0, hbit, h6]; exact fun e => hw ⟨e.1, by simpa using e.2⟩)]
      refine skip I _ _ (fun _ _ _ _ => rfl) h7 ?_
      by_cases h1 : t (10 + b) = m
      · have h2 : gBit (t 4) b = true := by
          cases hbb : gBit (t 4) b
          · exact absurd ⟨h1, hbb⟩ hw
          · rfl
        simp [gCan, h2]
      · simp [gCan, h1]
    rw [if_neg (by rw [zb_0, hbit, h6]; exact fun e => e ⟨hw.1, by rw [hw.2]; exact Bool.false_ne_true⟩), gb_75_121]
    refine m_lightAt (l := C.2 0) hc.2.2.2.2.2.2.2.2.1 (hC.2.2.2.2.2.2 0 (by decide)) (by omega) (by omega) fun I1 x hF1 hx => ?_
    rw [Option.toList_some, List.singleton_append, gb_75_131]
    have f0 := hF1 21 i2 0 (by omega)
    have f1 := hF1 21 i2 1 (by omega)
    have f2 := hF1 21 i2 2 (by omega)
    have f3 := hF1 22 i2 b (by omega)
    have f4 := hF1 36 i1 b (by omega)
    have f5 := hF1 34 i1 2 (by omega)
    have hl := gLight_r (C.2 0) a6.toInt (I 21 i2 0).toInt
    refine m_wouldTake (b := b) (l := C.2 2) hc.2.2.2.2.2.2.2.2.2.2 ((kCo_congr hC fun k j hk => hF1 _ _ _ (by omega)).2.2.2.2.2.2 2 (by decide)) h8 (by rw [f5]; omega) (by omega) (by omega) (by rw [f0]; omega) (by rw [f1]; omega) (by rw [f2]; omega) (by rw [f4]; omega) (by rw [f3]; omega) fun I2 y hF2 hy => ?_
    rw [Option.toList_some, List.singleton_append, gb_75_143]
    rw [f0, f1, f2, f3, f4, hx, s0, s1, s2, sb, cp, h6, ← hw.1] at hy
    have hF : (∀ k i j, ¬ ((k = 14 ∧ i = i1 ∧ (j = 3 ∨ j = 4 ∨ j = 5 ∨ j = 6)) ∨ (k = 16 ∧ i = i1) ∨ (k = 18 ∧ i = i1)) → I2 k i j = I k i j) := fun k i j hn => by rw [hF2 _ _ _ hn, hF1 _ _ _ hn]
    rcases hy with ⟨rfl, hy⟩ | ⟨rfl, hy⟩
    · have hcan : gCan C t m b = true := by simp [gCan, hr, hb, hw.1, hw.2]; exact gTkb_iff.mpr hy
      rw [if_neg (by decide), gb_75_146, gb_75_152, gb_75_154, gb_75_81]
      have hfin : gFst (gCan C t m) (n + 1) b = b := by unfold gFst; rw [hcan]; rfl
      split
      · exact k I2 _ _ _ hF (by rw [hfin]; exact h8)
      · rw [gb_75_88, gb_75_91, if_neg (by rw [z_eq, z_m1]; omega)]
        exact k I2 _ _ _ hF (by rw [hfin]; exact h8)
    · have hcan : gCan C t m b = false := by
        have : gTkb C t b = false := by
          cases e : gTkb C t b
          · rfl
          · exact absurd (gTkb_iff.mp e) hy
        simp [gCan, this]
      rw [if_pos rfl, gb_75_151, gb_75_152]
      exact skip I2 _ _ hF z_m1 hcan
theorem m_scan {i1 i2 : Nat} {C : gCo} {t : gSt} {a3 a4 a5 : Int32} (hc : cOk C) (hto : tOk C t) (h4 : a4.toInt = t 3) : ∀ (n : Nat) (m : Int) (I : Nat → Nat → Nat → Int32) (a6 a7 : Int32) (x8 x9 : Option gV), a5.toInt = m + n → a5.toInt ≤ 99 → 0 ≤ m → a6.toInt = m → a7.toInt = -1 → kCo I i1 C → kS I i2 t →
    (∀ (I' : Nat → Nat → Nat → Int32) a6 a7 x8 x9, (∀ k i j, ¬ ((k = 14 ∧ i = i1 ∧ (j = 3 ∨ j = 4 ∨ j = 5 ∨ j = 6)) ∨ (k = 16 ∧ i = i1) ∨ (k = 18 ∧ i = i1)) → I' k i j = I k i j) → a6.toInt = (gScan C t n m).1 → a7.toInt = (gScan C t n m).2 → (gq (d + 4) 75 163 [some (.inr (.inr (some (19, 0)))), some (.inr (.inr (some (34, i1)))), some (.inr (.inr (some (21, i2)))), some (.inl (a3)), some (.inl (a4)), some (.inl (a5)), some (.inl (a6)), some (.inl (a7)), x8, x9] [] (gwd S I' J h) Q)) → (gq (d + 4) 75 62 [some (.inr (.inr (some (19, 0)))), some (.inr (.inr (some (34, i1)))), some (.inr (.inr (some (21, i2)))), some (.inl (a3)), some (.inl (a4)), some (.inl (a5)), some (.inl (a6)), some (.inl (a7)), x8, x9] [] (gwd S I J h) Q)
  | 0, m, I, a6, a7, x8, x9, h5, h5', hm, h6, h7, hC, hS, k => by
    rw [gb_75_62, if_pos (by rw [z_le]; omega)]
    exact k I _ _ _ _ (fun _ _ _ _ => rfl) h6 h7
  | n + 1, m, I, a6, a7, x8, x9, h5, h5', hm, h6, h7, hC, hS, k => by
    have e1 : (1 : Int32).toInt = 1 := rfl
    have e7 : a7 = Int32.ofInt (-1) := z_inj (by rw [h7, z_m1])
    rw [gb_75_62, if_neg (by rw [z_le]; omega), gb_75_69, gb_75_72, if_pos e7, gb_75_75]
    have ea : (a6 + 1).toInt = m + 1 := by rw [z_add (by omega) (by omega), h6, e1]
    refine m_scan_in (m := m + 1) hc hto h4 ea (by omega) 8 0 I _ _ _ rfl rfl h7 hC hS fun I1 y7 y8 y9 hF1 g1 => ?_
    rw [gb_75_160]
    have g1' : y7.toInt = gTaker C t (m + 1) := g1
    by_cases hz : gTaker C t (m + 1) = -1
    · refine m_scan hc hto h4 n (m + 1) I1 _ y7 _ _ (by omega) h5' (by omega) ea (by omega) (kCo_congr hC fun k j hk => hF1 _ _ _ (by omega)) (kS_congr hS (fun j => hF1 _ _ _ (by omega)) (fun j => hF1 _ _ _ (by omega))) fun I' z6 z7 z8 z9 hF2 q1 q2 => k I' _ _ _ _ (fun k i j hn => by rw [hF2 _ _ _ hn, hF1 _ _ _ hn]) ?_ ?_
      · unfold gScan; rw [if_pos hz]; exact q1
      · unfold gScan; rw [if_pos hz]; exact q2
    · have fin : (gq (d + 4) 75 163 [some (.inr (.inr (some (19, 0)))), some (.inr (.inr (some (34, i1)))), some (.inr (.inr (some (21, i2)))), some (.inl (a3)), some (.inl (a4)), some (.inl (a5)), some (.inl ((a6 + 1))), some (.inl (y7)), (some (.inl y8)), y9] [] (gwd S I1 J h) Q) := k I1 _ _ _ _ hF1 (by unfold gScan; rw [if_neg hz]; exact ea) (by unfold gScan; rw [if_neg hz]; exact g1')
      rw [gb_75_62]
      split
      · exact fin
      · rw [gb_75_69, gb_75_72, if_neg (by rw [z_eq, z_m1]; omega)]
        exact fin
theorem gScan_r {C : gCo} {t : gSt} : ∀ {n : Nat} {m : Int}, m ≤ (gScan C t n m).1 ∧ (gScan C t n m).1 ≤ m + n ∧ (0 < n → m < (gScan C t n m).1) ∧ ((gScan C t n m).2 = -1 ∨ (gScan C t n m).2 = gTaker C t (gScan C t n m).1)
  | 0, m => by simp [gScan]
  | n + 1, m => by
    unfold gScan
    split
    · have := @gScan_r C t n (m + 1)
      exact ⟨by omega, by omega, fun _ => by omega, this.2.2.2⟩
    · exact ⟨by show m ≤ m + 1; omega, by show m + 1 ≤ m + ((n + 1 : Nat) : Int); omega, fun _ => by show m < m + 1; omega, Or.inr rfl⟩
theorem gMovb_iff {C : gCo} {t : gSt} : gMovb C t = true ↔ (0 ≤ t 3 ∧ t 3 < C.1 2 ∧ t 3 < 8 ∧ 0 < t 2 ∧ t 1 ≠ C.1 1) := decide_eq_true_iff
theorem gGoal_r {C : gCo} {t : gSt} (hc : cOk C) (hto : tOk C t) (hm : gMovb C t = true) : t 1 < (gGoal C t).1 ∧ (gGoal C t).1 ≤ C.1 1 ∧ (gGoal C t).1 ≤ t 1 + C.1 (20 + (t 3).toNat) := by
  have h := gMovb_iff.mp hm
  have rp := (hc.2.2.2.2.2.2.1 (t 3).toNat (by omega)).2
  have r1 := hto.2.1
  have := @gScan_r C t (min (t 1 + C.1 (20 + (t 3).toNat)) (C.1 1) - t 1).toNat (t 1)
  have h3 := this.2.2.1 (by omega)
  unfold gGoal
  omega
theorem m_runHour {i1 i2 : Nat} {x3 x4 x5 x6 x7 x8 x9 : Option gV} {C : gCo} {t : gSt} (hc : cOk C) (hC : kCo I i1 C) (hto : tOk C t) (hS : kS I i2 t)
    (k : ∀ (I' : Nat → Nat → Nat → Int32) (x : Int32), (∀ k i j, ¬ ((k = 14 ∧ i = i1 ∧ (j = 3 ∨ j = 4 ∨ j = 5 ∨ j = 6)) ∨ (k = 16 ∧ i = i1) ∨ (k = 18 ∧ i = i1) ∨ (k = 21 ∧ i = i2) ∨ (k = 22 ∧ i = i2)) → I' k i j = I k i j) → kS I' i2 (gHour C t) → x.toInt = gMiles C t → Q (some (.inl x)) (gwd S I' J h)) : (gq (d + 4) 75 0 [some (.inr (.inr (some (19, 0)))), some (.inr (.inr (some (34, i1)))), some (.inr (.inr (some (21, i2)))), x3, x4, x5, x6, x7, x8, x9] [] (gwd S I J h) Q) := by
  have e1 : (1 : Int32).toInt = 1 := rfl
  have e999 : (999 : Int32).toInt = 999 := rfl
  have s0 := hS.1 0 (by decide)
  have s1 := hS.1 1 (by decide)
  have s2 := hS.1 2 (by decide)
  have s3 := hS.1 3 (by decide)
  have s5 := hS.1 5 (by decide)
  have c1 := hC.1 1 (by decide)
  have c2 := hC.1 2 (by decide)
  have r0 := hto.1
  have r1 := hto.2.1
  have r2 := hto.2.2.1
  have r3 := hto.2.2.2.1
  have rM := hc.2.1
  have stay : gMovb C t = false → ∀ x5 x6 x7 x8 x9, (gq (d + 4) 75 214 [some (.inr (.inr (some (19, 0)))), some (.inr (.inr (some (34, i1)))), some (.inr (.inr (some (21, i2)))), some (.inl (0)), some (.inl ((I 21 i2 3))), x5, x6, x7, x8, x9] [] (gwd S I J h) Q) := fun hno x5 x6 x7 x8 x9 => by
    rw [gb_75_214, m_min, Option.toList_some, List.singleton_append, gb_75_227]
    refine k _ _ (fun k i j hn => u_ne (by omega)) ⟨fun j hj => ?_, fun j hj => ?_⟩ (by unfold gMiles; rw [hno]; rfl)
    · unfold gHour; rw [hno, u_at, sUp_at]
      split
      · rw [zmin_i, z_add (by omega) (by omega), s0, e1, e999]
      · exact hS.1 j hj
    · unfold gHour; rw [hno, u_k (by decide), sUp_ne (by omega)]; exact hS.2 j hj
  rw [gb_75_0, m_hasBearer, Option.toList_some, List.singleton_append, gb_75_14]
  by_cases h1 : 0 ≤ t 3 ∧ t 3 < C.1 2 ∧ t 3 < 8
  case neg =>
    rw [if_pos (by rw [zb_0]; omega)]
    exact stay (decide_eq_false (by omega)) _ _ _ _ _
  rw [if_neg (by rw [zb_0]; exact fun e => e (by omega)), gb_75_17, m_isAlight, Option.toList_some, List.singleton_append, gb_75_21]
  by_cases h2 : 0 < t 2
  case neg =>
    rw [if_pos (by rw [zb_0]; omega)]
    exact stay (decide_eq_false (by omega)) _ _ _ _ _
  rw [if_neg (by rw [zb_0]; exact fun e => e (by omega)), gb_75_24, m_isThrough, Option.toList_some, List.singleton_append, gb_75_29]
  by_cases h3 : t 1 = C.1 1
  · rw [if_neg (by rw [zb_0]; exact fun e => e (by omega))]
    exact stay (decide_eq_false (by omega)) _ _ _ _ _
  have hmv : gMovb C t = true := gMovb_iff.mpr ⟨h1.1, h1.2.1, h1.2.2, h2, h3⟩
  have en : (I 21 i2 3).toInt.toNat = (t 3).toNat := by rw [s3]
  have cp := hC.2.2.1 (t 3).toNat (by omega)
  have rp := (hc.2.2.2.2.2.2.1 (t 3).toNat (by omega)).2
  rw [if_pos (by rw [zb_0]; omega), gb_75_32]
  refine ⟨g_in.mpr (by omega), ?_⟩
  rw [z_n, en, gb_75_43, m_min, Option.toList_some, List.singleton_append, gb_75_51, gb_75_60]
  have e5 : (zmin (I 21 i2 1 + I 36 i1 (t 3).toNat) (I 34 i1 1)).toInt = min (t 1 + C.1 (20 + (t 3).toNat)) (C.1 1) := by rw [zmin_i, z_add (by omega) (by omega), s1, cp, c1]
  have hg := gGoal_r hc hto hmv
  refine m_scan hc hto s3 (min (t 1 + C.1 (20 + (t 3).toNat)) (C.1 1) - t 1).toNat (t 1) I _ _ _ _ (by rw [e5]; omega) (by rw [e5]; omega) (by omega) s1 z_m1 hC hS fun I1 a6 a7 y8 y9 hF1 g1 g2 => ?_
  have g1' : a6.toInt = (gGoal C t).1 := g1
  have g2' : a7.toInt = (gGoal C t).2 := g2
  have hC1 : kCo I1 i1 C := kCo_congr hC fun k j hk => hF1 _ _ _ (by omega)
  rw [gb_75_163]
  have f1 := hF1 21 i2 1 (by omega)
  refine m_passHouses (t := t) g1' hC1 (by rw [f1]; exact s1) (by rw [hF1 _ _ _ (by omega)]; exact s2) (by rw [hF1 _ _ _ (by omega)]; exact s5) hto.2.2.2.2.2.1 fun I2 hF2 p1 p2 p3 => ?_
  have f3 : I2 21 i2 3 = I 21 i2 3 := by rw [hF2 _ _ _ (by omega), hF1 _ _ _ (by omega)]
  rw [Option.toList_none, List.nil_append, gb_75_178, m_advance (by rw [f3]; omega) (by rw [f3]; omega), Option.toList_none, List.nil_append, gb_75_186, f3, en, g2', f1]
  generalize hI3 : gup (gup (gup I2 22 i2 (t 3).toNat a6) 21 i2 1 a6) 21 i2 3 (if (gGoal C t).2 = -1 then I 21 i2 3 else a7) = I3
  have q0 : I3 21 i2 0 = I 21 i2 0 := by rw [← hI3, u_j (by decide), u_j (by decide), u_k (by decide), hF2 _ _ _ (by omega), hF1 _ _ _ (by omega)]
  have q1 : I3 21 i2 1 = a6 := by rw [← hI3, u_j (by decide), u_eq]
  have q2 : I3 21 i2 2 = I 21 i2 2 := by rw [← hI3, u_j (by decide), u_j (by decide), u_k (by decide), hF2 _ _ _ (by omega), hF1 _ _ _ (by omega)]
  have q3 : I3 21 i2 3 = (if (gGoal C t).2 = -1 then I 21 i2 3 else a7) := by rw [← hI3, u_eq]
  have q4 : I3 21 i2 4 = I 21 i2 4 := by rw [← hI3, u_j (by decide), u_j (by decide), u_k (by decide), hF2 _ _ _ (by omega), hF1 _ _ _ (by omega)]
  have q5 : (I3 21 i2 5).toInt = gPassN C t (gGoal C t).1 8 0 (t 5) := by rw [← hI3, u_j (by decide), u_j (by decide), u_k (by decide)]; exact p1
  have qm : ∀ b, I3 22 i2 b = if b = (t 3).toNat then a6 else I 22 i2 b := fun b => by
    rw [← hI3, u_k (by decide), u_k (by decide), u_at, hF2 _ _ _ (by omega), hF1 _ _ _ (by omega)]
  have hFI3 : (∀ k i j, ¬ ((k = 14 ∧ i = i1 ∧ (j = 3 ∨ j = 4 ∨ j = 5 ∨ j = 6)) ∨ (k = 16 ∧ i = i1) ∨ (k = 18 ∧ i = i1) ∨ (k = 21 ∧ i = i2) ∨ (k = 22 ∧ i = i2)) → I3 k i j = I k i j) := fun k i j hn => by rw [← hI3, u_ne (by omega), u_ne (by omega), u_ne (by omega), hF2 _ _ _ (by omega), hF1 _ _ _ (by omega)]
  have hC3 : kCo I3 i1 C := kCo_congr hC fun k j hk => hFI3 _ _ _ (by omega)
  refine m_lightAt (l := C.2 0) hc.2.2.2.2.2.2.2.2.1 (hC3.2.2.2.2.2.2 0 (by decide)) (by omega) (by rw [q0]; omega) fun I4 x hF4 hx => ?_
  have hC4 : kCo I4 i1 C := kCo_congr hC3 fun k j hk => hF4 _ _ _ (by omega)
  rw [Option.toList_some, List.singleton_append, gb_75_196]
  have eq36 : (I4 36 i1 (t 3).toNat).toInt = C.1 (20 + (t 3).toNat) := hC4.2.2.1 _ (by omega)
  have e6 : (a6 - I 21 i2 1).toInt = (gGoal C t).1 - t 1 := by rw [z_sub (by omega) (by omega), g1', s1]
  have hl := gLight_r (C.2 0) a6.toInt (I 21 i2 0).toInt
  have w0 := hF4 21 i2 0 (by omega)
  have w2 := hF4 21 i2 2 (by omega)
  rw [q0] at w0 hx
  rw [q2] at w2
  refine m_waned (b := (t 3).toNat) (l := C.2 1) hc.2.2.2.2.2.2.2.2.2.1 (hC4.2.2.2.2.2.2 1 (by decide)) (by omega) (by have := hC4.1 2 (by decide); omega) (by omega) (by omega) (by omega) (by rw [w0]; omega) (by rw [w2]; omega) (by omega) fun I5 y hF5 hy => ?_
  rw [Option.toList_some, List.singleton_append, gb_75_211, gb_75_214, m_min, Option.toList_some, List.singleton_append, gb_75_227]
  rw [w0, w2, eq36, hx, s0, s2, g2', e6, g1'] at hy
  have v : ∀ j, j ≠ 2 → I5 21 i2 j = I3 21 i2 j := fun j _ => by rw [hF5 _ _ _ (by omega), hF4 _ _ _ (by omega)]
  refine k _ _ (fun k i j hn => ?_) ⟨fun j hj => ?_, fun j hj => ?_⟩ ?_
  · rw [u_ne (by omega), u_ne (by omega), hF5 _ _ _ (by omega), hF4 _ _ _ (by omega), hFI3 _ _ _ (by omega)]
  · unfold gHour; rw [hmv, if_pos rfl, sUp_at]
    have e : j = 0 ∨ j = 1 ∨ j = 2 ∨ j = 3 ∨ j = 4 ∨ j = 5 := by omega
    rcases e with rfl | rfl | rfl | rfl | rfl | rfl
    · rw [u_eq, if_pos rfl, u_j (by decide), v 0 (by decide), q0, zmin_i, z_add (by omega) (by omega), s0, e1, e999]
    · rw [u_j (by decide), u_j (by decide), v 1 (by decide), q1, if_neg (by decide), g1']
      unfold gRan; rw [sUp_ne (by decide), sUp_ne (by decide), sUp_eq]
    · rw [u_j (by decide), u_eq, if_neg (by decide), hy]
      unfold gRan; rw [sUp_eq]
    · rw [u_j (by decide), u_j (by decide), v 3 (by decide), q3, if_neg (show ¬ (3 : Nat) = 0 by decide)]
      unfold gRan; rw [sUp_ne (by decide), sUp_eq]
      by_cases hz : (gGoal C t).2 = -1
      · rw [if_pos hz, if_pos hz]; exact s3
      · rw [if_neg hz, if_neg hz]; exact g2'
    · rw [u_j (by decide), u_j (by decide), v 4 (by decide), q4, if_neg (by decide)]
      unfold gRan; rw [sUp_ne (by decide), sUp_ne (by decide), sUp_ne (by decide), sUp_ne (by omega), sUp_ne (by decide)]
      exact hS.1 4 (by decide)
    · rw [u_j (by decide), u_j (by decide), v 5 (by decide), q5, if_neg (by decide)]
      unfold gRan; rw [sUp_ne (by decide), sUp_ne (by decide), sUp_ne (by decide), sUp_ne (by omega), sUp_eq]
  · unfold gHour; rw [hmv, if_pos rfl, sUp_ne (by omega), u_k (by decide), u_k (by decide), hF5 _ _ _ (by omega), hF4 _ _ _ (by omega), qm]
    unfold gRan; rw [sUp_ne (by omega), sUp_ne (by omega), sUp_ne (by omega), sUp_at]
    by_cases e : j = (t 3).toNat
    · rw [if_pos e, if_pos (by omega), g1']
    · rw [if_neg e, if_neg (by omega), sUp_ne (by omega)]; exact hS.2 j hj
  · unfold gMiles; rw [hmv]; exact e6
