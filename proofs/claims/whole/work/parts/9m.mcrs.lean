/-! The model's course, whole. -/
variable {d S : Nat} {h : Nat × Option gNm} {I : Nat → Nat → Nat → Int32} {J : Nat → Nat → Nat → Int64} {Q : Option gV → gW → Prop}
variable {tp : Nat → Int} {n s : Nat} {g : Bool} {D : gCo} {τ : lT}
/-- what taking a course over changes -/
def FS (I I' : Nat → Nat → Nat → Int32) : Prop := ∀ k i j, ¬ (i = 0 ∧ (k = 50 ∧ (j = 48 ∨ j = 64 ∨ j = 70) ∨ k = 54 ∧ 5 ≤ j ∨ k = 56 ∧ 16 ≤ j ∨ k = 57 ∧ 16 ≤ j ∨ k = 58 ∧ 3 ≤ j ∨ k = 59 ∧ 3 ≤ j ∨ k = 60 ∧ 1600 ≤ j ∨ k = 61)) → I' k i j = I k i j
theorem gBi_0 (b : Nat) : gBi 0 b = 0 := by
  unfold gBi gBit
  rw [show (0 : Int).toNat = 0 from rfl, Nat.zero_testBit]
  rfl
theorem n_stands {x1 : Option gV} {C : gCo} (hP : mPc I J D s) (hs : s ≤ 1600) (hE : dEq C D)
    (K : ∀ (I' : Nat → Nat → Nat → Int32) (J' : Nat → Nat → Nat → Int64), FS I I' → (∀ k i j, ¬ (k = 55 ∧ i = 0 ∧ 16 ≤ j ∧ j < 32) → J' k i j = J k i j) → mCo I' C → mS I' C (gBeg C) → mNm J' C → (∀ lg, mKp I' lg 0) → I' 50 0 70 = 0 → I' 50 0 64 = 0 → Q none (gwd S I' J' h)) : (gq d 182 0 [some (.inr (.inr (some (50, 0)))), x1] [] (gwd S I J h) Q) := by
  obtain ⟨⟨p1, p2, p3, p4, p5, p0⟩, ⟨r2, r3⟩, pB, pH, pN, z, hz, pz, pF⟩ := hP
  obtain ⟨c0, cB, cH, cF, cN⟩ := hE
  have c1 := c0 1 (by decide)
  have c2 := c0 2 (by decide)
  have c3 := c0 3 (by decide)
  have c4 := c0 4 (by decide)
  have c5 := c0 5 (by decide)
  rw [gb_182_0]
  generalize hI0 : gup I 50 0 48 1 = I0
  have hF0 : (∀ k i j, ¬ ((k = 50 ∧ i = 0 ∧ j = 48)) → I0 k i j = I k i j) := fun k i j hn => by rw [← hI0, u_ne (by omega)]
  have h48 : I0 50 0 48 = 1 := by rw [← hI0, u_eq]
  refine n_st1 (I := I0) (fun I1 a hF1 hc1 => ?_) 5 0 I0 _ rfl rfl (fun _ _ _ _ => rfl) (fun j hj => absurd hj (Nat.not_lt_zero _))
  rw [gb_182_32]
  refine n_st2 (I := I1) (fun I2 a hF2 hc2 => ?_) 3 0 I1 _ rfl rfl (fun _ _ _ _ => rfl) (fun j hj => absurd hj (Nat.not_lt_zero _))
  rw [gb_182_73]
  refine n_st3 (I := I2) (J := J) (fun I3 J3 a hF3 hG3 hc3 => ?_) 16 0 I2 J _ rfl rfl (fun _ _ _ _ => rfl) (fun _ _ _ _ => rfl) (fun j hj => absurd hj (Nat.not_lt_zero _))
  rw [gb_182_132]
  refine n_st4 (I := I3) (z := z) (by rw [hF3 _ _ _ (by omega), hF2 _ _ _ (by omega), hF1 _ _ _ (by omega), hF0 _ _ _ (by omega)]; exact pz) (by omega) (fun I4 a hF4 hc4 => ?_) z 0 I3 _ (Nat.zero_add _) rfl (fun _ _ _ _ => rfl) (fun j hj => absurd hj (Nat.not_lt_zero _))
  rw [gb_182_164]
  refine n_st5 (I := I4) (fun I5 a hF5 hc5 => ?_) 189 0 I4 _ rfl rfl (fun _ _ _ _ => rfl) (fun j hj => absurd hj (Nat.not_lt_zero _))
  rw [gb_182_186]
  refine ⟨g_in.mpr (by decide), ?_⟩
  rw [show (3 : Int32).toNatClampNeg = 3 from rfl, gb_182_197]
  refine ⟨g_in.mpr (by decide), ?_⟩
  rw [show (2 : Int32).toNatClampNeg = 2 from rfl, gb_182_198, gb_182_204]
  refine ⟨g_in.mpr (by decide), ?_⟩
  rw [show (3 : Int32).toNatClampNeg = 3 from rfl, gb_182_205]
  generalize hI6 : gup (gup I5 61 0 2 (I5 54 0 3)) 61 0 3 (Int32.ofInt (-1)) = I6
  have o5 : ∀ k i j, ¬ (i = 0 ∧ (k = 50 ∧ j = 48 ∨ k = 54 ∧ 5 ≤ j ∨ k = 56 ∧ 16 ≤ j ∨ k = 57 ∧ 16 ≤ j ∨ k = 58 ∧ 3 ≤ j ∨ k = 59 ∧ 3 ≤ j ∨ k = 60 ∧ 1600 ≤ j ∨ k = 61)) → I5 k i j = I k i j := fun k i j hn => by rw [hF5 _ _ _ (by omega), hF4 _ _ _ (by omega), hF3 _ _ _ (by omega), hF2 _ _ _ (by omega), hF1 _ _ _ (by omega), hF0 _ _ _ (by omega)]
  have o65 : ∀ k i j, ¬ (k = 61 ∧ i = 0 ∧ (j = 2 ∨ j = 3)) → I6 k i j = I5 k i j := fun k i j hn => by rw [← hI6, u_ne (by omega), u_ne (by omega)]
  have q2 : (I6 61 0 2).toInt = C.1 4 := by rw [← hI6, u_j (by decide), u_eq, o5 _ _ _ (by omega), c4]; exact p4
  have q3 : (I6 61 0 3).toInt = -1 := by rw [← hI6, u_eq]; rfl
  have q0 : ∀ j, j < 189 → j ≠ 2 → j ≠ 3 → I6 61 0 j = 0 := fun j h1 h2 h3 => by rw [o65 _ _ _ (by omega)]; exact hc5 j h1
  have a54 : ∀ j, j < 5 → I5 54 0 (5 + j) = I 54 0 j := fun j hj => by rw [hF5 _ _ _ (by omega), hF4 _ _ _ (by omega), hF3 _ _ _ (by omega), hF2 _ _ _ (by omega), hc1 j hj, hF0 _ _ _ (by omega)]
  have a58 : ∀ j, j < 3 → I5 58 0 (3 + j) = I 58 0 j ∧ I5 59 0 (3 + j) = I 59 0 j := fun j hj => by
    rw [hF5 _ _ _ (by omega), hF4 _ _ _ (by omega), hF3 _ _ _ (by omega), (hc2 j hj).1, hF1 _ _ _ (by omega), hF0 _ _ _ (by omega), hF5 _ _ _ (by omega), hF4 _ _ _ (by omega), hF3 _ _ _ (by omega), (hc2 j hj).2, hF1 _ _ _ (by omega), hF0 _ _ _ (by omega)]
    exact ⟨rfl, rfl⟩
  have a56 : ∀ j, j < 16 → I5 56 0 (16 + j) = I 56 0 j := fun j hj => by rw [hF5 _ _ _ (by omega), hF4 _ _ _ (by omega), (hc3 j hj).1, hF2 _ _ _ (by omega), hF1 _ _ _ (by omega), hF0 _ _ _ (by omega)]
  have a57 : ∀ j, j < 16 → I5 57 0 (16 + j) = I 57 0 j := fun j hj => by rw [hF5 _ _ _ (by omega), hF4 _ _ _ (by omega), (hc3 j hj).2.1, hF2 _ _ _ (by omega), hF1 _ _ _ (by omega), hF0 _ _ _ (by omega)]
  have a60 : ∀ j, j < z → I5 60 0 (1600 + j) = I 60 0 j := fun j hj => by rw [hF5 _ _ _ (by omega), hc4 j hj, hF3 _ _ _ (by omega), hF2 _ _ _ (by omega), hF1 _ _ _ (by omega), hF0 _ _ _ (by omega)]
  have h485 : I5 50 0 48 = 1 := by rw [hF5 _ _ _ (by omega), hF4 _ _ _ (by omega), hF3 _ _ _ (by omega), hF2 _ _ _ (by omega), hF1 _ _ _ (by omega)]; exact h48
  refine n_st6 (I := I6) (C := C) (by rw [o65 _ _ _ (by omega), o5 _ _ _ (by omega), c2]; exact p2) (by omega) (fun b hb => by rw [o65 _ _ _ (by omega), o5 _ _ _ (by omega), (cB b (by omega)).1]; exact (pB b (by omega)).1) (fun I7 a hF7 t3 t1 ho hd => ?_) 8 0 (-1) 0 I6 _ rfl rfl (fun _ _ _ _ => rfl) q3 (by rw [q0 1 (by decide) (by decide) (by decide)]; rfl) (fun _ _ => rfl) (fun b hb _ => absurd hb (Nat.not_lt_zero _)) rfl
  rw [gb_182_289]
  generalize hI8 : gup (gup I7 50 0 70 0) 50 0 64 0 = I8
  have hF8 : (∀ k i j, ¬ ((k = 50 ∧ i = 0 ∧ (j = 64 ∨ j = 70))) → I8 k i j = I7 k i j) := fun k i j hn => by rw [← hI8, u_ne (by omega), u_ne (by omega)]
  have o8 : ∀ k i j, ¬ (k = 61 ∧ i = 0 ∨ k = 50 ∧ i = 0 ∧ (j = 64 ∨ j = 70)) → I8 k i j = I5 k i j := fun k i j hn => by rw [hF8 _ _ _ (by omega), hF7 _ _ _ (by omega), o65 _ _ _ (by omega)]
  have o61 : ∀ j, I8 61 0 j = I7 61 0 j := fun j => hF8 _ _ _ (by omega)
  refine K I8 J3 (fun k i j hn => by rw [o8 _ _ _ (by omega), o5 _ _ _ (by omega)]) hG3 ⟨⟨?_, ?_, ?_, ?_, ?_⟩, fun b hb => ⟨?_, ?_⟩, fun b hb => ⟨?_, ?_⟩, fun f hf => ?_, ?_⟩ ⟨⟨?_, ?_, ?_, ?_⟩, fun b hb => ⟨?_, ?_⟩, fun b hb => ?_⟩ (fun r hr => ?_) (fun lg => ⟨?_, fun k w hk _ => ?_⟩) (by rw [← hI8, u_j (by decide), u_eq]) (by rw [← hI8, u_eq])
  · rw [o8 _ _ _ (by omega), a54 0 (by decide), c1]; exact p1
  · rw [o8 _ _ _ (by omega), a54 1 (by decide), c2]; exact p2
  · rw [o8 _ _ _ (by omega), a54 2 (by decide), c3]; exact p3
  · rw [o8 _ _ _ (by omega), a54 3 (by decide), c4]; exact p4
  · rw [o8 _ _ _ (by omega), a54 4 (by decide), c5]; exact p5
  · rw [o8 _ _ _ (by omega), a56 (2 * b) (by omega), (cB b (by omega)).1]; exact (pB b (by omega)).1
  · rw [o8 _ _ _ (by omega), show 17 + 2 * b = 16 + (2 * b + 1) by omega, a56 (2 * b + 1) (by omega), (cB b (by omega)).2]; exact (pB b (by omega)).2
  · rw [o8 _ _ _ (by omega), a57 (2 * b) (by omega), (cH b (by omega)).1]; exact (pH b (by omega)).1
  · rw [o8 _ _ _ (by omega), show 17 + 2 * b = 16 + (2 * b + 1) by omega, a57 (2 * b + 1) (by omega), (cH b (by omega)).2]; exact (pH b (by omega)).2
  · unfold mFo
    have cf := cF f hf
    have s58 : I8 58 0 (3 + f) = I 58 0 f := by rw [o8 _ _ _ (by omega)]; exact (a58 f hf).1
    have s59 : I8 59 0 (3 + f) = I 59 0 f := by rw [o8 _ _ _ (by omega)]; exact (a58 f hf).2
    rcases pF f hf with ⟨w, b0, g1, g2, g3, g4⟩ | ⟨w, g1⟩
    · have e : C.2 f = D.2 f := by rw [cf.2]; exact if_pos w
      rw [if_pos (by rw [cf.1]; exact w), e]
      exact ⟨b0, by rw [s58]; exact g1, by rw [s59]; exact g2, by omega, gCd_sh (fun k h1 h2 => by rw [o8 _ _ _ (by omega)]; exact a60 k (by omega)) g4⟩
    · have e : C.2 f = gDef f := by rw [cf.2]; exact if_neg (by omega)
      rw [if_neg (by rw [cf.1]; omega)]
      exact ⟨by rw [s58]; exact g1, e⟩
  · rw [o8 _ _ _ (by omega), h485]; decide
  · rw [o61, ho 0 (by omega), q0 0 (by decide) (by decide) (by decide)]; rfl
  · rw [o61, t1]; rfl
  · rw [o61, ho 2 (by omega), q2]; rfl
  · rw [o61, t3]; rfl
  · rw [o61, hd b hb]
    show _ = (if 10 + b = 1 then (gBgN C 8 0 (-1) 0).2 else if 10 + b = 2 then C.1 4 else if 10 + b = 3 then (gBgN C 8 0 (-1) 0).1 else if 10 ≤ 10 + b ∧ 10 + b < 18 then C.1 (10 + b) else 0)
    rw [if_neg (by omega), if_neg (by omega), if_neg (by omega), if_pos (by omega)]
  · rw [o61, ho _ (by omega), q0 _ (by omega) (by omega) (by omega), show gBeg C 4 = 0 from rfl, gBi_0]; rfl
  · rw [o61, ho _ (by omega), q0 _ (by omega) (by omega) (by omega), show gBeg C 5 = 0 from rfl, gBi_0]; rfl
  · rw [c2, c3] at hr
    obtain ⟨m, hR, hJ⟩ := pN r hr
    have hc := cN r hr
    refine ⟨m, hR.1, fun k hk => by rw [hc k (by have := hR.1; omega)]; exact hR.2.1 k hk, fun k h1 h2 => by rw [hc k h2]; exact hR.2.2 k h1 h2, ?_⟩
    rw [(hc3 r (by omega)).2.2, hJ]
    exact (gPk_c fun k hk => hc k (by have := hR.1; omega)).symm
  · rw [o61, ho 28 (by omega), q0 28 (by decide) (by decide) (by decide)]; rfl
  · exact absurd (show (k : Int) < min 0 40 from hk) (by omega)
theorem n_course {x1 : Option gV} {C : gCo} {rf : Nat → Int32} (hT : ∀ j, j < n → (I 51 0 j).toInt = tp j) (hL : (I 50 0 1).toInt = n) (hn : n ≤ 1600) (hB : ∀ j, j < n → 0 ≤ tp j ∧ tp j ≤ 255) (hW : mWs I) (hf : mRf I rf) (hC : ∀ q, (nCrs tp n).1 = .inr q → dEq C (nCrs tp n).2)
    (Kb : ∀ (I' : Nat → Nat → Nat → Int32) (J' : Nat → Nat → Nat → Int64) (f p : Int), (nCrs tp n).1 = .inl (f, p) → FD I (fun k i j => if k = 50 ∧ i = 0 ∧ (j = 1 ∨ j = 3 ∨ j = 7 ∨ j = 8) ∨ k = 52 ∧ i = 0 then I k i j else I' k i j) → FDJ J J' → I' 50 0 1 = 0 → (I' 50 0 7).toInt = f → (I' 50 0 8).toInt = p → mRf I' (gRef rf 1) → Q (some (.inl (Int32.ofInt (-1)))) (gwd S I' J' h))
    (K : ∀ (I' : Nat → Nat → Nat → Int32) (J' : Nat → Nat → Nat → Int64) (q : Nat × Bool) (x : Int32), (nCrs tp n).1 = .inr q → (∀ k i j, ¬ (i = 0 ∧ (k = 50 ∧ (j < 72) ∨ 54 ≤ k ∧ k ≤ 61 ∨ k = 68 ∨ k = 69 ∨ k = 50 ∧ 99 ≤ j ∧ j ≤ 103)) → I' k i j = I k i j) → (∀ j, 9 ≤ j → j < 72 → j ≠ 10 → j ≠ 38 → j ≠ 46 → j ≠ 47 → j ≠ 48 → j ≠ 49 → j ≠ 64 → j ≠ 70 → I' 50 0 j = I 50 0 j) → (∀ k i j, ¬ (k = 55 ∧ i = 0) → J' k i j = J k i j) → I' 50 0 1 = 0 → I' 50 0 7 = 0 → (I' 50 0 8).toInt = -1 → mCo I' C → mS I' C (gBeg C) → mNm J' C → (∀ lg, mKp I' lg 0) → I' 50 0 70 = 0 → I' 50 0 64 = 0 → x.toInt = (nCrs tp n).2.1 0 → Q (some (.inl x)) (gwd S I' J' h)) : (gq (d + 12) 181 0 [some (.inr (.inr (some (50, 0)))), x1] [] (gwd S I J h) Q) := by
  refine n_courseR hT hL hn hB hW fun I1 J1 a hF1 z1 hJ1 ht1 hP1 => ?_
  have oF : ∀ k i j, ¬ (i = 0 ∧ (k = 50 ∧ (j = 1 ∨ j = 2 ∨ j = 3 ∨ j = 4 ∨ j = 5 ∨ j = 6 ∨ j = 10 ∨ j = 38 ∨ j = 46 ∨ j = 47 ∨ j = 49 ∨ j = 99 ∨ j = 101 ∨ j = 102 ∨ j = 103) ∨ k = 68 ∨ k = 69 ∨ k = 54 ∧ j < 5 ∨ k = 56 ∧ j < 16 ∨ k = 57 ∧ j < 16 ∨ k = 58 ∧ j < 3 ∨ k = 59 ∧ j < 3 ∨ k = 60 ∧ j < 1600)) → I1 k i j = I k i j := fun k i j hn => by
    have := hF1 k i j (by omega)
    have e : (if k = 50 ∧ i = 0 ∧ (j = 1 ∨ j = 3) then I k i j else I1 k i j) = I k i j := this
    rw [if_neg (by omega)] at e
    exact e
  rw [gb_181_119]
  generalize hI2 : gup (gup I1 50 0 7 (I1 50 0 5)) 50 0 8 (I1 50 0 6) = I2
  have hF2 : (∀ k i j, ¬ ((k = 50 ∧ i = 0 ∧ (j = 7 ∨ j = 8))) → I2 k i j = I1 k i j) := fun k i j hn => by rw [← hI2, u_ne (by omega), u_ne (by omega)]
  have y7 : I2 50 0 7 = I1 50 0 5 := by rw [← hI2, u_j (by decide), u_eq]
  have y8 : I2 50 0 8 = I1 50 0 6 := by rw [← hI2, u_eq]
  match hq : (nCrs tp n).1, ht1 with
  | .inl (f, p), ht1 =>
    rw [if_neg (mTk_bad ht1), gb_181_142]
    refine ⟨g_in.mpr (by decide), ?_⟩
    rw [show (1 : Int32).toNatClampNeg = 1 from rfl, gb_181_149]
    refine ⟨g_in.mpr (by decide), ?_⟩
    rw [show (1 : Int32).toNatClampNeg = 1 from rfl, gb_181_152, gb_181_153]
    generalize hI3 : gup I2 52 0 1 (I2 52 0 1 + 1) = I3
    have hF3 : (∀ k i j, ¬ ((k = 52 ∧ i = 0 ∧ j = 1)) → I3 k i j = I2 k i j) := fun k i j hn => by rw [← hI3, u_ne (by omega)]
    refine Kb I3 J1 f p hq (fun k i j hn => ?_) hJ1 (by rw [hF3 _ _ _ (by omega), hF2 _ _ _ (by omega)]; exact z1) (by rw [hF3 _ _ _ (by omega), y7]; exact ht1.1) (by rw [hF3 _ _ _ (by omega), y8]; exact ht1.2.2) (fun k hk => ?_)
    · show (if _ then I k i j else I3 k i j) = I k i j
      split
      · rfl
      · rename_i hc
        rw [hF3 _ _ _ (by omega), hF2 _ _ _ (by omega), oF _ _ _ (by omega)]
    · have e2 : ∀ k, I2 52 0 k = I 52 0 k := fun k => by rw [hF2 _ _ _ (by omega), oF _ _ _ (by omega)]
      unfold gRef
      by_cases e : k = 1
      · rw [if_pos e, e, ← hI3, u_eq, e2, hf 1 (by decide)]
      · rw [if_neg e, hF3 _ _ _ (by omega), e2, hf k hk]
  | .inr q, ht1 =>
    have hP := hP1 q hq
    have hqn := mTk_sn ht1
    rw [if_pos ht1.1, gb_181_154]
    refine n_stands (mPc_congr (I' := I2) hP (fun j hj => hF2 _ _ _ (by omega)) (fun k j h1 h2 => hF2 _ _ _ (by omega))) (by omega) (hC q hq) fun I3 J3 hF3 hJ3 g1 g2 g3 g4 g5 g6 => ?_
    rw [Option.toList_none, List.nil_append, gb_181_158]
    refine K I3 J3 q _ hq (fun k i j hn => ?_) (fun j h1 h2 _ _ _ _ _ _ _ _ => ?_) (fun k i j hn => ?_) (by rw [hF3 _ _ _ (by omega), hF2 _ _ _ (by omega)]; exact z1) (by rw [hF3 _ _ _ (by omega), y7]; exact ht1.1) (by rw [hF3 _ _ _ (by omega), y8]; exact ht1.2.1) g1 g2 g3 g4 g5 g6 (by rw [hF3 _ _ _ (by omega), hF2 _ _ _ (by omega)]; exact hP.1.2.2.2.2.2)
    · rw [hF3 _ _ _ (by omega), hF2 _ _ _ (by omega), oF _ _ _ (by omega)]
    · rw [hF3 _ _ _ (by omega), hF2 _ _ _ (by omega), oF _ _ _ (by omega)]
    · rw [hJ3 _ _ _ (by omega), hJ1 _ _ _ (by omega)]
