/-! The class takes a course over. -/
theorem gRT_sw {h : Nat × Option gNm} (h1 : h.1 ≤ 1) : gup (gup (gRT h) 10 0 9 (some (34, h.1))) 10 0 8 (some (34, 1 - h.1)) = gRT (1 - h.1, h.2) := by
  funext k i j
  by_cases e8 : k = 10 ∧ i = 0 ∧ j = 8
  · obtain ⟨rfl, rfl, rfl⟩ := e8
    rw [u_eq]; rfl
  rw [u_ne e8]
  by_cases e9 : k = 10 ∧ i = 0 ∧ j = 9
  · obtain ⟨rfl, rfl, rfl⟩ := e9
    rw [u_eq]
    show some (34, h.1) = some (34, 1 - (1 - h.1))
    rw [show 1 - (1 - h.1) = h.1 by omega]
  rw [u_ne e9]
  by_cases ek : k = 10
  · subst ek
    show gR10 h i j = gR10 (1 - h.1, h.2) i j
    have l8 : ∀ x y : Option gNm, cond (Nat.beq j 8) (cond (Nat.beq i 0) x none) none = cond (Nat.beq j 8) (cond (Nat.beq i 0) y none) none := fun x y => by
      by_cases w : i = 0
      · rw [show Nat.beq j 8 = false from Bool.eq_false_iff.mpr fun q => e8 ⟨rfl, w, Nat.eq_of_beq_eq_true q⟩]; rfl
      · rw [show Nat.beq i 0 = false from Bool.eq_false_iff.mpr fun q => w (Nat.eq_of_beq_eq_true q)]; rfl
    have l9 : ∀ x y : Option gNm, cond (Nat.beq j 9) (cond (Nat.beq i 0) x none) none = cond (Nat.beq j 9) (cond (Nat.beq i 0) y none) none := fun x y => by
      by_cases w : i = 0
      · rw [show Nat.beq j 9 = false from Bool.eq_false_iff.mpr fun q => e9 ⟨rfl, w, Nat.eq_of_beq_eq_true q⟩]; rfl
      · rw [show Nat.beq i 0 = false from Bool.eq_false_iff.mpr fun q => w (Nat.eq_of_beq_eq_true q)]; rfl
    unfold gR10
    rw [l9 (some (34, 1 - h.1)) (some (34, 1 - (1 - h.1, h.2).1)), l8 (some (34, h.1)) (some (34, (1 - h.1, h.2).1))]
  · have hb : Nat.beq k 10 = false := Bool.eq_false_iff.mpr fun q => ek (Nat.eq_of_beq_eq_true q)
    unfold gRT
    rw [hb]
    rfl
/-- a course as its cells hold it -/
def kMk (I : Nat → Nat → Nat → Int32) (c : Nat) (D : gCo) : gCo := (fun j => if j < 6 then (I 34 c j).toInt else if 10 ≤ j ∧ j < 18 then (I 35 c (j - 10)).toInt else if 20 ≤ j ∧ j < 28 then (I 36 c (j - 20)).toInt else if 30 ≤ j ∧ j < 38 then (I 37 c (j - 30)).toInt else if 40 ≤ j ∧ j < 48 then (I 38 c (j - 40)).toInt else if 100 ≤ j ∧ j < 196 then (I 39 c (j - 100)).toInt else D.1 j, dDef D)
theorem kMk_co {I : Nat → Nat → Nat → Int32} {c : Nat} {D : gCo} (hE : kEnd I c D) : kCo I c (kMk I c D) := by
  refine ⟨fun j hj => (if_pos hj).symm, fun b hb => ?_, fun b hb => ?_, fun b hb => ?_, fun b hb => ?_, fun k hk => ?_, hE.2.2.2.2⟩
  · show _ = (if 10 + b < 6 then _ else if 10 ≤ 10 + b ∧ 10 + b < 18 then (I 35 c (10 + b - 10)).toInt else _)
    rw [if_neg (by omega), if_pos (by omega), show 10 + b - 10 = b by omega]
  · show _ = (if 20 + b < 6 then _ else if 10 ≤ 20 + b ∧ 20 + b < 18 then _ else if 20 ≤ 20 + b ∧ 20 + b < 28 then (I 36 c (20 + b - 20)).toInt else _)
    rw [if_neg (by omega), if_neg (by omega), if_pos (by omega), show 20 + b - 20 = b by omega]
  · show _ = (if 30 + b < 6 then _ else if 10 ≤ 30 + b ∧ 30 + b < 18 then _ else if 20 ≤ 30 + b ∧ 30 + b < 28 then _ else if 30 ≤ 30 + b ∧ 30 + b < 38 then (I 37 c (30 + b - 30)).toInt else _)
    rw [if_neg (by omega), if_neg (by omega), if_neg (by omega), if_pos (by omega), show 30 + b - 30 = b by omega]
  · show _ = (if 40 + b < 6 then _ else if 10 ≤ 40 + b ∧ 40 + b < 18 then _ else if 20 ≤ 40 + b ∧ 40 + b < 28 then _ else if 30 ≤ 40 + b ∧ 40 + b < 38 then _ else if 40 ≤ 40 + b ∧ 40 + b < 48 then (I 38 c (40 + b - 40)).toInt else _)
    rw [if_neg (by omega), if_neg (by omega), if_neg (by omega), if_neg (by omega), if_pos (by omega), show 40 + b - 40 = b by omega]
  · show _ = (if 100 + k < 6 then _ else if 10 ≤ 100 + k ∧ 100 + k < 18 then _ else if 20 ≤ 100 + k ∧ 100 + k < 28 then _ else if 30 ≤ 100 + k ∧ 100 + k < 38 then _ else if 40 ≤ 100 + k ∧ 100 + k < 48 then _ else if 100 ≤ 100 + k ∧ 100 + k < 196 then (I 39 c (100 + k - 100)).toInt else _)
    rw [if_neg (by omega), if_neg (by omega), if_neg (by omega), if_neg (by omega), if_neg (by omega), if_pos (by omega), show 100 + k - 100 = k by omega]
/-- where the course that was read and its cells say the same -/
def dEq (C D : gCo) : Prop := (∀ j, j < 6 → C.1 j = D.1 j) ∧ (∀ b : Nat, (b : Int) < D.1 2 → C.1 (10 + b) = D.1 (10 + b) ∧ C.1 (20 + b) = D.1 (20 + b)) ∧ (∀ b : Nat, (b : Int) < D.1 3 → C.1 (30 + b) = D.1 (30 + b) ∧ C.1 (40 + b) = D.1 (40 + b)) ∧ (∀ f, f < 3 → C.1 (50 + f) = D.1 (50 + f) ∧ C.2 f = dDef D f) ∧ (∀ r : Nat, ((r : Int) < D.1 2 ∨ 8 ≤ r ∧ (r : Int) - 8 < D.1 3) → ∀ k, k < 6 → C.1 (100 + (6 * r + k)) = D.1 (100 + (6 * r + k)))
theorem kMk_eq {I : Nat → Nat → Nat → Int32} {c : Nat} {D : gCo} (hE : kEnd I c D) : dEq (kMk I c D) D := by
  have co := kMk_co hE
  obtain ⟨hN, hc, hB, hH, hF⟩ := hE
  refine ⟨fun j hj => ?_, fun b hb => ?_, fun b hb => ?_, fun f hf => ⟨?_, rfl⟩, fun r hr k hk => ?_⟩
  · rw [← co.1 j hj]
    have e : j = 0 ∨ j = 1 ∨ j = 2 ∨ j = 3 ∨ j = 4 ∨ j = 5 := by omega
    rcases e with rfl | rfl | rfl | rfl | rfl | rfl
    · exact hc.1
    · exact hc.2.1
    · exact hN.1
    · exact hN.2.1
    · exact hc.2.2.1
    · exact hc.2.2.2
  · have := hN.2.2.1
    rw [← co.2.1 b (by omega), ← co.2.2.1 b (by omega)]; exact hB b hb
  · have := hN.2.2.2.1
    rw [← co.2.2.2.1 b (by omega), ← co.2.2.2.2.1 b (by omega)]; exact hH b hb
  · show (if 50 + f < 6 then _ else if 10 ≤ 50 + f ∧ 50 + f < 18 then _ else if 20 ≤ 50 + f ∧ 50 + f < 28 then _ else if 30 ≤ 50 + f ∧ 50 + f < 38 then _ else if 40 ≤ 50 + f ∧ 50 + f < 48 then _ else if 100 ≤ 50 + f ∧ 50 + f < 196 then _ else D.1 (50 + f)) = D.1 (50 + f)
    rw [if_neg (by omega), if_neg (by omega), if_neg (by omega), if_neg (by omega), if_neg (by omega), if_neg (by omega)]
  · have r2 := hN.2.2.1
    have r3 := hN.2.2.2.1
    rw [← co.2.2.2.2.2.1 _ (by omega)]
    rcases hr with q | q
    · exact hN.2.2.2.2.1 r q k hk
    · have := hN.2.2.2.2.2 (r - 8) (by omega) k hk
      rw [show 8 + (r - 8) = r by omega] at this
      exact this
variable {d S : Nat} {h : Nat × Option gNm} {I : Nat → Nat → Nat → Int32} {J : Nat → Nat → Nat → Int64} {Q : Option gV → gW → Prop}
variable {tp : Nat → Int} {n : Nat}
theorem m_courseP {x1 : Option gV} {lg : Nat → Int} {nl : Int} {ac : List (gSt × Int)} {rf : Nat → Int32} (hx : kTx I tp n) (hw : kWd I) (h1 : h.1 ≤ 1) (hp : kPa I lg nl ac) (hf : kRf I rf)
    (Kb : ∀ (I' : Nat → Nat → Nat → Int32) f p, (nCrs tp n).1 = .inl (f, p) → FC (1 - h.1) I (fun k i j => if k = 10 ∧ i = 0 ∧ (j = 12 ∨ j = 13) ∨ k = 11 ∧ i = 0 ∧ j = 1 ∨ k = 33 ∧ i = 0 then I k i j else I' k i j) → (I' 10 0 12).toInt = f → (I' 10 0 13).toInt = p → I' 11 0 1 = 0 → kRf I' (gRef rf 1) → Q (some (.inl (Int32.ofInt (-1)))) (gwd S I' J h))
    (K : ∀ (I' : Nat → Nat → Nat → Int32) q (x : Int32), (nCrs tp n).1 = .inr q → FC (1 - h.1) I (fun k i j => if k = 10 ∧ i = 0 ∧ (j = 10 ∨ j = 12 ∨ j = 13) ∨ k = 11 ∧ i = 0 ∧ j = 1 ∨ k = 21 ∧ i = 0 ∨ k = 22 ∧ i = 0 ∨ k = 28 ∧ i = 0 ∧ (j = 1 ∨ j = 4) ∨ k = 20 ∧ i = 0 ∧ j = 3 then I k i j else I' k i j) → kCo I' (1 - h.1) (kMk I' (1 - h.1) (nCrs tp n).2) → dEq (kMk I' (1 - h.1) (nCrs tp n).2) (nCrs tp n).2 → I' 10 0 10 = 1 → I' 10 0 12 = 0 → (I' 10 0 13).toInt = -1 → I' 11 0 1 = 0 → kS I' 0 (gBeg (kMk I' (1 - h.1) (nCrs tp n).2)) → kPa I' lg 0 [] → I' 20 0 3 = 0 → x.toInt = (nCrs tp n).2.1 0 → Q (some (.inl x)) (gwd S I' J (1 - h.1, h.2))) : (gq (d + 81) 118 0 [some (.inr (.inr (some (10, 0)))), x1] [] (gwd S I J h) Q) := by
  rw [gb_118_0]
  refine m_read hx hw fun I1 hF1 ht1 hE1 => ?_
  rw [Option.toList_none, List.nil_append, gb_118_7, gb_148_0, Option.toList_none, List.nil_append, gb_118_11]
  generalize hI2 : gup (gup I1 10 0 12 (I1 11 0 6)) 10 0 13 (I1 11 0 7) = I2
  have hF2 : (∀ k i j, ¬ ((k = 10 ∧ i = 0 ∧ (j = 12 ∨ j = 13))) → I2 k i j = I1 k i j) := fun k i j hn => by rw [← hI2, u_ne (by omega), u_ne (by omega)]
  have z12 : I2 10 0 12 = I1 11 0 6 := by rw [← hI2, u_j (by decide), u_eq]
  have z13 : I2 10 0 13 = I1 11 0 7 := by rw [← hI2, u_eq]
  have hF3 : (∀ k i j, ¬ ((k = 11 ∧ i = 0 ∧ j = 1)) → gup I2 11 0 1 0 k i j = I2 k i j) := fun k i j hn => u_ne (by omega)
  have z1 : gup I2 11 0 1 0 11 0 1 = 0 := u_eq
  generalize gup I2 11 0 1 0 = I3 at hF3 z1
  rw [z12]
  match hq : (nCrs tp n).1, ht1 with
  | .inl (f, p), ht1 =>
    rw [if_neg (kTk_bad ht1), gb_118_26]
    refine m_refuse (w := 1) (rf := rf) rfl (by decide) (fun k hk => by rw [hF3 _ _ _ (by omega), hF2 _ _ _ (by omega), hF1 _ _ _ (by omega)]; exact hf k hk) fun I4 hF4 hf4 => ?_
    rw [Option.toList_some, List.singleton_append, gb_118_31]
    refine Kb I4 f p hq (fun k i j hn => ?_) (by rw [hF4 _ _ _ (by omega), hF3 _ _ _ (by omega), z12]; exact ht1.2.1) (by rw [hF4 _ _ _ (by omega), hF3 _ _ _ (by omega), z13]; exact ht1.2.2.2) (by rw [hF4 _ _ _ (by omega)]; exact z1) hf4
    show (if _ then I k i j else I4 k i j) = I k i j
    split
    · rfl
    · rw [hF4 _ _ _ (by omega), hF3 _ _ _ (by omega), hF2 _ _ _ (by omega), hF1 _ _ _ hn]
  | .inr q, ht1 =>
    have hE := hE1 q hq
    rw [if_pos ht1.2.2.2.1, gb_118_32, gRT_sw h1]
    have hF4 : (∀ k i j, ¬ ((k = 10 ∧ i = 0 ∧ j = 10)) → gup I3 10 0 10 1 k i j = I3 k i j) := fun k i j hn => u_ne (by omega)
    have z10 : gup I3 10 0 10 1 10 0 10 = 1 := u_eq
    generalize gup I3 10 0 10 1 = I4 at hF4 z10
    have o4 : ∀ k i j, ¬ (k = 10 ∧ i = 0 ∨ k = 11 ∧ i = 0) → I4 k i j = I1 k i j := fun k i j hn => by rw [hF4 _ _ _ (by omega), hF3 _ _ _ (by omega), hF2 _ _ _ (by omega)]
    have mk4 : ∀ {I' : Nat → Nat → Nat → Int32}, (∀ k j, 34 ≤ k → k ≤ 41 → I' k (1 - h.1) j = I1 k (1 - h.1) j) → kMk I' (1 - h.1) (nCrs tp n).2 = kMk I1 (1 - h.1) (nCrs tp n).2 := fun {I'} e => by
      unfold kMk
      simp only [e 34 _ (by decide) (by decide), e 35 _ (by decide) (by decide), e 36 _ (by decide) (by decide), e 37 _ (by decide) (by decide), e 38 _ (by decide) (by decide), e 39 _ (by decide) (by decide)]
    have co1 := kMk_co hE
    show gq _ _ _ _ _ (gwd S I4 J (1 - h.1, h.2)) _
    refine m_sbegin (c := 1 - h.1) (C := kMk I1 (1 - h.1) (nCrs tp n).2) (kCo_congr co1 fun k j hk => o4 _ _ _ (by omega)) fun I5 hF5 hS5 => ?_
    rw [Option.toList_none, List.nil_append, gb_118_66]
    refine m_pclear (lg := lg) (nl := nl) (ac := ac) (kPa_congr hp (fun k j hk => by rw [hF5 _ _ _ (by omega), o4 _ _ _ (by omega), hF1 _ _ _ (by omega)])) fun I6 hF6 hp6 => ?_
    rw [Option.toList_none, List.nil_append, gb_118_73, gb_2_0, Option.toList_none, List.nil_append, gb_118_80]
    have o7 : ∀ k i j, ¬ (k = 10 ∧ i = 0 ∨ k = 11 ∧ i = 0 ∨ k = 21 ∧ i = 0 ∨ k = 22 ∧ i = 0 ∨ k = 28 ∧ i = 0 ∨ k = 20 ∧ i = 0 ∧ j = 3) → gup I6 20 0 3 0 k i j = I1 k i j := fun k i j hn => by rw [u_ne (by omega), hF6 _ _ _ (by omega), hF5 _ _ _ (by omega), o4 _ _ _ (by omega)]
    have em := mk4 (I' := gup I6 20 0 3 0) (fun k j a b => o7 _ _ _ (by omega))
    refine K (gup I6 20 0 3 0) q _ hq (fun k i j hn => ?_) (by rw [em]; exact kCo_congr co1 fun k j hk => o7 _ _ _ (by omega)) (by rw [em]; exact kMk_eq hE) (by rw [u_ne (by omega), hF6 _ _ _ (by omega), hF5 _ _ _ (by omega)]; exact z10) (by rw [u_ne (by omega), hF6 _ _ _ (by omega), hF5 _ _ _ (by omega), hF4 _ _ _ (by omega), hF3 _ _ _ (by omega), z12]; exact ht1.2.2.2.1) (by rw [u_ne (by omega), hF6 _ _ _ (by omega), hF5 _ _ _ (by omega), hF4 _ _ _ (by omega), hF3 _ _ _ (by omega), z13]; exact ht1.2.2.2.2.1) (by rw [u_ne (by omega), hF6 _ _ _ (by omega), hF5 _ _ _ (by omega), hF4 _ _ _ (by omega)]; exact z1) (by rw [em]; exact kS_congr hS5 (fun j => by rw [u_ne (by omega), hF6 _ _ _ (by omega)]) (fun j => by rw [u_ne (by omega), hF6 _ _ _ (by omega)])) (kPa_congr hp6 (fun k j hk => u_ne (by omega))) u_eq ?_
    · show (if _ then I k i j else gup I6 20 0 3 0 k i j) = I k i j
      split
      · rfl
      · rename_i hc
        have : gup I6 20 0 3 0 k i j = I1 k i j := by rw [u_ne (by omega), hF6 _ _ _ (by omega), hF5 _ _ _ (by omega), hF4 _ _ _ (by omega), hF3 _ _ _ (by omega), hF2 _ _ _ (by omega)]
        rw [this, hF1 _ _ _ hn]
    · rw [o7 _ _ _ (by omega)]; exact hE.2.1.1
