/-! An hour, of any state. A state: 0 hour, 1 mile, 2 strength, 3 bearer, 4 asides, 5 passed (as bits), 10 + b where a bearer waits. A course's numbers: 0 statements, 1 miles, 2 bearers, 3 houses, 4 dark, 5 trip, 10 + b starts, 20 + b paces, 30 + h sites, 40 + h cares, 100 + k names. -/
abbrev gSt : Type := Nat → Int
abbrev gCo : Type := (Nat → Int) × (Nat → List Int)
def sUp (t : gSt) (k : Nat) (v : Int) : gSt := fun j => if j = k then v else t j
theorem sUp_eq {t : gSt} {k : Nat} {v : Int} : sUp t k v k = v := if_pos rfl
theorem sUp_ne {t : gSt} {k j : Nat} {v : Int} (h : j ≠ k) : sUp t k v j = t j := if_neg h
theorem sUp_at {t : gSt} {k j : Nat} {v : Int} : sUp t k v j = if j = k then v else t j := rfl
def gBit (m : Int) (b : Nat) : Bool := m.toNat.testBit b
def gSetB (m : Int) (b : Nat) : Int := ((m.toNat ||| 2 ^ b : Nat) : Int)
theorem bit_tbl : ∀ n, n < 256 → ∀ b, b < 8 → (Int32.ofNat n >>> (Int32.ofNat b &&& 31) &&& 1 = 1 ↔ n.testBit b = true) := by decide +kernel
theorem or_tbl : ∀ n, n < 256 → ∀ b, b < 8 → Int32.ofNat n ||| (1 <<< (Int32.ofNat b &&& 31)) = Int32.ofNat (n ||| 2 ^ b) ∧ (n ||| 2 ^ b) < 256 := by decide +kernel
theorem z_ofn (x : Int32) (h : 0 ≤ x.toInt) : x = Int32.ofNat x.toInt.toNat := z_inj (by
  have := z_hi x
  rw [Int32.toInt_ofNat', Int.toNat_of_nonneg h]; exact (z_bm (by omega) (by omega)).symm)
theorem z_bit {x a : Int32} {b : Nat} (h0 : 0 ≤ x.toInt) (h1 : x.toInt < 256) (ha : a.toInt = b) (hb : b < 8) : x >>> (a &&& 31) &&& 1 = 1 ↔ gBit x.toInt b = true := by
  have e := bit_tbl x.toInt.toNat (by omega) b hb
  rw [z_ofn a (by omega), ha, Int.toNat_natCast]
  rw [← z_ofn x h0] at e
  exact e
theorem z_orb {x a : Int32} {b : Nat} (h0 : 0 ≤ x.toInt) (h1 : x.toInt < 256) (ha : a.toInt = b) (hb : b < 8) : (x ||| (1 <<< (a &&& 31))).toInt = gSetB x.toInt b ∧ gSetB x.toInt b < 256 := by
  have e := or_tbl x.toInt.toNat (by omega) b hb
  rw [z_ofn a (by omega), ha, Int.toNat_natCast]
  rw [← z_ofn x h0] at e
  rw [e.1]
  unfold gSetB
  have := e.2
  rw [Int32.toInt_ofNat']
  exact ⟨z_bm (by omega) (by omega), by omega⟩
theorem gSetB_0 {m : Int} {b : Nat} : 0 ≤ gSetB m b := Int.natCast_nonneg _
/-- the first of n from b on for which p holds; none: -1 -/
def gFst (p : Nat → Bool) : Nat → Nat → Int
  | 0, _ => -1
  | n + 1, b => if p b then b else gFst p n (b + 1)
theorem gFst_r {p : Nat → Bool} : ∀ {n b : Nat}, -1 ≤ gFst p n b ∧ gFst p n b < b + n ∧ (gFst p n b ≠ -1 → b ≤ gFst p n b ∧ p (gFst p n b).toNat = true)
  | 0, b => ⟨by simp [gFst], by simp [gFst]; omega, fun h => absurd rfl h⟩
  | n + 1, b => by
    unfold gFst
    split
    · rename_i hp; exact ⟨by omega, by omega, fun _ => ⟨by omega, by simpa using hp⟩⟩
    · have ih := @gFst_r p n (b + 1)
      exact ⟨ih.1, by omega, fun h => ⟨by have := (ih.2.2 h).1; omega, (ih.2.2 h).2⟩⟩
def gTk (C : gCo) (t : gSt) (b : Nat) : Prop := gTakes (C.2 2) (t 0) (t 2) (gLight (C.2 0) (t (10 + b)) (t 0)) (C.1 (20 + b)) (gabs (t (10 + b) - t 1))
theorem gTk_dec (C : gCo) (t : gSt) (b : Nat) : gTk C t b ↔ gTop (gRun (eVT (t 0) (t 2) (gLight (C.2 0) (t (10 + b)) (t 0)) (C.1 (20 + b)) (gabs (t (10 + b) - t 1))) g0 (C.2 2) []) ≠ 0 := Iff.rfl
def gTkb (C : gCo) (t : gSt) (b : Nat) : Bool := decide (gTop (gRun (eVT (t 0) (t 2) (gLight (C.2 0) (t (10 + b)) (t 0)) (C.1 (20 + b)) (gabs (t (10 + b) - t 1))) g0 (C.2 2) []) ≠ 0)
theorem gTkb_iff {C : gCo} {t : gSt} {b : Nat} : gTkb C t b = true ↔ gTk C t b := decide_eq_true_iff
def gCan (C : gCo) (t : gSt) (m : Int) (b : Nat) : Bool := decide (t 3 ≠ b) && (decide ((b : Int) < C.1 2) && (decide (t (10 + b) = m) && (!gBit (t 4) b && gTkb C t b)))
def gTaker (C : gCo) (t : gSt) (m : Int) : Int := gFst (gCan C t m) 8 0
def gScan (C : gCo) (t : gSt) : Nat → Int → Int × Int
  | 0, m => (m, -1)
  | n + 1, m => if gTaker C t (m + 1) = -1 then gScan C t n (m + 1) else (m + 1, gTaker C t (m + 1))
def gGoal (C : gCo) (t : gSt) : Int × Int := gScan C t (min (t 1 + C.1 (20 + (t 3).toNat)) (C.1 1) - t 1).toNat (t 1)
def gPassN (C : gCo) (t : gSt) (g : Int) : Nat → Nat → Int → Int
  | 0, _, m => m
  | n + 1, i, m => gPassN C t g n (i + 1) (if (i : Int) < C.1 3 ∧ t 1 < C.1 (30 + i) ∧ C.1 (30 + i) ≤ g ∧ C.1 (40 + i) ≤ t 2 then gSetB m i else m)
def gRan (C : gCo) (t : gSt) : gSt :=
  sUp (sUp (sUp (sUp (sUp t 5 (gPassN C t (gGoal C t).1 8 0 (t 5))) (10 + (t 3).toNat) (gGoal C t).1) 1 (gGoal C t).1) 3 (if (gGoal C t).2 = -1 then t 3 else (gGoal C t).2)) 2
    (gWane (C.2 1) (t 0) (t 2) (gLight (C.2 0) (gGoal C t).1 (t 0)) (C.1 (20 + (t 3).toNat)) (if (gGoal C t).2 = -1 then 0 else 1) ((gGoal C t).1 - t 1))
def gMovb (C : gCo) (t : gSt) : Bool := decide (0 ≤ t 3 ∧ t 3 < C.1 2 ∧ t 3 < 8 ∧ 0 < t 2 ∧ t 1 ≠ C.1 1)
def gHour (C : gCo) (t : gSt) : gSt := sUp (if gMovb C t then gRan C t else t) 0 (min (t 0 + 1) 999)
def gMiles (C : gCo) (t : gSt) : Int := if gMovb C t then (gGoal C t).1 - t 1 else 0
def kS (I : Nat → Nat → Nat → Int32) (i : Nat) (t : gSt) : Prop := (∀ j, j < 6 → (I 21 i j).toInt = t j) ∧ (∀ b, b < 8 → (I 22 i b).toInt = t (10 + b))
def kCo (I : Nat → Nat → Nat → Int32) (c : Nat) (C : gCo) : Prop := (∀ j, j < 6 → (I 34 c j).toInt = C.1 j) ∧ (∀ b, b < 8 → (I 35 c b).toInt = C.1 (10 + b)) ∧ (∀ b, b < 8 → (I 36 c b).toInt = C.1 (20 + b)) ∧ (∀ b, b < 8 → (I 37 c b).toInt = C.1 (30 + b)) ∧ (∀ b, b < 8 → (I 38 c b).toInt = C.1 (40 + b)) ∧ (∀ k, k < 96 → (I 39 c k).toInt = C.1 (100 + k)) ∧ (∀ f, f < 3 → kSl I c f (C.2 f))
def cOk (C : gCo) : Prop := (1 ≤ C.1 0 ∧ C.1 0 ≤ 60) ∧ (5 ≤ C.1 1 ∧ C.1 1 ≤ 99) ∧ (0 ≤ C.1 2 ∧ C.1 2 ≤ 8) ∧ (0 ≤ C.1 3 ∧ C.1 3 ≤ 8) ∧ (1 ≤ C.1 4 ∧ C.1 4 ≤ 99) ∧ (0 ≤ C.1 5 ∧ C.1 5 ≤ 100) ∧ (∀ b : Nat, (b : Int) < C.1 2 → (0 ≤ C.1 (10 + b) ∧ C.1 (10 + b) ≤ C.1 1) ∧ (1 ≤ C.1 (20 + b) ∧ C.1 (20 + b) ≤ 9)) ∧ (∀ b : Nat, (b : Int) < C.1 3 → (0 ≤ C.1 (30 + b) ∧ C.1 (30 + b) ≤ C.1 1) ∧ (0 ≤ C.1 (40 + b) ∧ C.1 (40 + b) ≤ 99)) ∧ gTy alLi (C.2 0) [] = some [false] ∧ gTy alWn (C.2 1) [] = some [false] ∧ gTy alTk (C.2 2) [] = some [decide (C.1 52 = 1)]
def tOk (C : gCo) (t : gSt) : Prop := (0 ≤ t 0 ∧ t 0 ≤ 2000) ∧ (0 ≤ t 1 ∧ t 1 ≤ C.1 1) ∧ (0 ≤ t 2 ∧ t 2 ≤ 99) ∧ (-1 ≤ t 3 ∧ t 3 < C.1 2) ∧ (0 ≤ t 4 ∧ t 4 < 256) ∧ (0 ≤ t 5 ∧ t 5 < 256) ∧ (∀ b : Nat, (b : Int) < C.1 2 → 0 ≤ t (10 + b) ∧ t (10 + b) ≤ C.1 1)
theorem kS_congr {I I' : Nat → Nat → Nat → Int32} {i : Nat} {t : gSt} (h : kS I i t) (e1 : ∀ j, I' 21 i j = I 21 i j) (e2 : ∀ j, I' 22 i j = I 22 i j) : kS I' i t := ⟨fun j hj => by rw [e1]; exact h.1 j hj, fun j hj => by rw [e2]; exact h.2 j hj⟩
theorem kCo_congr {I I' : Nat → Nat → Nat → Int32} {c : Nat} {C : gCo} (h : kCo I c C) (e : ∀ k j, (k = 15 ∨ k = 34 ∨ k = 35 ∨ k = 36 ∨ k = 37 ∨ k = 38 ∨ k = 39 ∨ k = 40 ∨ k = 41) → I' k c j = I k c j) : kCo I' c C := by
  obtain ⟨h1, h2, h3, h4, h5, h6, h7⟩ := h
  refine ⟨fun j hj => ?_, fun j hj => ?_, fun j hj => ?_, fun j hj => ?_, fun j hj => ?_, fun j hj => ?_, fun f hf => ?_⟩
  · rw [e _ _ (by omega)]; exact h1 j hj
  · rw [e _ _ (by omega)]; exact h2 j hj
  · rw [e _ _ (by omega)]; exact h3 j hj
  · rw [e _ _ (by omega)]; exact h4 j hj
  · rw [e _ _ (by omega)]; exact h5 j hj
  · rw [e _ _ (by omega)]; exact h6 j hj
  · exact kSl_congr (e _ _ (by omega)) (e _ _ (by omega)) (fun z => e _ _ (by omega)) (h7 f hf)
variable {d S : Nat} {h : Nat × Option gNm} {I : Nat → Nat → Nat → Int32} {J : Nat → Nat → Nat → Int64} {Q : Option gV → gW → Prop}
theorem m_copy_in {i1 i2 : Nat} (hne : i1 ≠ i2) : ∀ (n b : Nat) (I : Nat → Nat → Nat → Int32) (a2 : Int32), b + n = 8 → a2.toInt = b →
    (∀ (I' : Nat → Nat → Nat → Int32), (∀ k i j, ¬ ((k = 22 ∧ i = i1)) → I' k i j = I k i j) → (∀ j, b ≤ j → j < 8 → I' 22 i1 j = I 22 i2 j) → (∀ j, j < b → I' 22 i1 j = I 22 i1 j) → Q none (gwd S I' J h)) → (gq d 89 50 [some (.inr (.inr (some (21, i1)))), some (.inr (.inr (some (21, i2)))), some (.inl (a2))] [] (gwd S I J h) Q)
  | 0, b, I, a2, hn, ha, k => by
    have e8 : (Int32.ofNat 8).toInt = 8 := rfl
    rw [gb_89_50, if_pos (by rw [z_le]; omega), gb_89_77]
    exact k I (fun _ _ _ _ => rfl) (fun j h1 h2 => by omega) (fun _ _ => rfl)
  | n + 1, b, I, a2, hn, ha, k => by
    have e8 : (Int32.ofNat 8).toInt = 8 := rfl
    have e1 : (1 : Int32).toInt = 1 := rfl
    have en : a2.toInt.toNat = b := by omega
    rw [gb_89_50, if_neg (by rw [z_le]; omega), gb_89_59]
    refine ⟨g_in.mpr (by omega), ?_⟩
    rw [gb_89_70]
    refine ⟨g_in.mpr (by omega), ?_⟩
    rw [gb_89_71, z_n, en]
    refine m_copy_in hne n (b + 1) _ _ (by omega) (by rw [z_add (by omega) (by omega), ha, e1]; rfl) fun I' hF h1 h2 => k I' (fun k i j hn => by rw [hF _ _ _ (by omega), u_ne (by omega)]) (fun j hj hj8 => ?_) (fun j hj => ?_)
    · by_cases e : j = b
      · rw [e, h2 b (by omega), u_eq]
      · rw [h1 j (by omega) hj8, u_i (by omega)]
    · rw [h2 j (by omega), u_j (by omega)]
theorem m_copy {i1 i2 : Nat} {x2 : Option gV} {t : gSt} (hne : i1 ≠ i2) (hS : kS I i2 t) (k : ∀ (I' : Nat → Nat → Nat → Int32), (∀ k i j, ¬ ((k = 21 ∧ i = i1) ∨ (k = 22 ∧ i = i1)) → I' k i j = I k i j) → kS I' i1 t → Q none (gwd S I' J h)) : (gq d 89 0 [some (.inr (.inr (some (21, i1)))), some (.inr (.inr (some (21, i2)))), x2] [] (gwd S I J h) Q) := by
  rw [gb_89_0]
  simp only [u_i (show i2 ≠ i1 from fun e => hne e.symm)]
  refine m_copy_in hne 8 0 _ _ rfl rfl fun I' hF h1 _ => k I' (fun k i j hn => by rw [hF _ _ _ (by omega)]; repeat rw [u_ne (by omega)]) ⟨fun j hj => ?_, fun j hj => ?_⟩
  · rw [hF _ _ _ (by omega), ← hS.1 j hj]
    have e : j = 0 ∨ j = 1 ∨ j = 2 ∨ j = 3 ∨ j = 4 ∨ j = 5 := by omega
    rcases e with rfl | rfl | rfl | rfl | rfl | rfl
    · rw [u_j (by decide), u_j (by decide), u_j (by decide), u_j (by decide), u_j (by decide), u_eq]
    · rw [u_j (by decide), u_j (by decide), u_j (by decide), u_j (by decide), u_eq]
    · rw [u_j (by decide), u_j (by decide), u_j (by decide), u_eq]
    · rw [u_j (by decide), u_j (by decide), u_eq]
    · rw [u_j (by decide), u_eq]
    · rw [u_eq]
  · rw [h1 j (by omega) hj, ← hS.2 j hj]
    simp only [u_k (show (22 : Nat) ≠ 21 by decide)]
theorem m_waitsAt {i1 : Nat} {a1 a2 : Int32} (h0 : 0 ≤ a1.toInt) (h8 : a1.toInt < 8) : (gq (d + 1) 96 0 [some (.inr (.inr (some (21, i1)))), some (.inl (a1)), some (.inl (a2))] [] (gwd S I J h) Q) ↔ Q (some (.inl (zb ((I 22 i1 a1.toInt.toNat).toInt = a2.toInt ∧ ¬ (I 21 i1 4 >>> (a1 &&& 31) &&& 1 = 1))))) (gwd S I J h) := by
  have e8 : (Int32.ofNat 8).toInt = 8 := rfl
  rw [gb_96_0, if_neg (by rw [z_lt, z_0]; omega), gb_96_4, if_neg (by rw [z_le]; omega), gb_96_13]
  simp only [g_in, z_n, gb_96_19, gb_96_23, gb_96_28, gb_96_31, gb_96_35, gb_96_36, m_isAside, Option.toList_some, List.singleton_append, zb_0, g_t0, g_t1, true_and]
  have e : (0 ≤ a1.toInt ∧ a1.toInt < ((8 : Nat) : Int)) = True := by simp; omega
  rw [e, true_and]
  by_cases h1 : (I 22 i1 a1.toInt.toNat).toInt = a2.toInt
  · rw [if_pos (z_inj h1)]
    by_cases h2 : I 21 i1 4 >>> (a1 &&& 31) &&& 1 = 1
    · rw [if_neg (by simp [h2]), zb_neg (by simp [h2])]
    · rw [if_pos h2, zb_pos ⟨h1, h2⟩]
  · rw [if_neg (fun e => h1 (congrArg Int32.toInt e)), zb_neg (fun e => h1 e.1)]
theorem m_passHouses_in {i1 i2 : Nat} {a2 : Int32} {C : gCo} {t : gSt} {g : Int} (hg : a2.toInt = g) : ∀ (n b : Nat) (I : Nat → Nat → Nat → Int32) (a3 : Int32) (x4 : Option gV) (m : Int), b + n = 8 → a3.toInt = b → kCo I i2 C → (I 21 i1 1).toInt = t 1 → (I 21 i1 2).toInt = t 2 → (I 21 i1 5).toInt = m → 0 ≤ m → m < 256 →
    (∀ (I' : Nat → Nat → Nat → Int32), (∀ k i j, ¬ ((k = 21 ∧ i = i1 ∧ j = 5)) → I' k i j = I k i j) → (I' 21 i1 5).toInt = gPassN C t g n b m → 0 ≤ gPassN C t g n b m → gPassN C t g n b m < 256 → Q none (gwd S I' J h)) → (gq (d + 1) 97 2 [some (.inr (.inr (some (21, i1)))), some (.inr (.inr (some (34, i2)))), some (.inl (a2)), some (.inl (a3)), x4] [] (gwd S I J h) Q)
  | 0, b, I, a3, x4, m, hn, ha, hC, h1, h2, h5, hm0, hm1, k => by
    have e8 : (8 : Int32).toInt = 8 := rfl
    rw [gb_97_2, if_pos (by rw [z_le]; omega), gb_97_82]
    exact k I (fun _ _ _ _ => rfl) h5 hm0 hm1
  | n + 1, b, I, a3, x4, m, hn, ha, hC, h1, h2, h5, hm0, hm1, k => by
    have e8 : (8 : Int32).toInt = 8 := rfl
    have e1 : (1 : Int32).toInt = 1 := rfl
    have en : a3.toInt.toNat = b := by omega
    have c3 := hC.1 3 (by decide)
    have cs := hC.2.2.2.1 b (by omega)
    have cc := hC.2.2.2.2.1 b (by omega)
    have ea : (a3 + 1).toInt = ((b + 1 : Nat) : Int) := by rw [z_add (by omega) (by omega), ha, e1]; rfl
    have skip : ∀ x4, ¬ ((b : Int) < C.1 3 ∧ t 1 < C.1 (30 + b) ∧ C.1 (30 + b) ≤ g ∧ C.1 (40 + b) ≤ t 2) → (gq (d + 1) 97 76 [some (.inr (.inr (some (21, i1)))), some (.inr (.inr (some (34, i2)))), some (.inl (a2)), some (.inl (a3)), some (.inl (x4))] [] (gwd S I J h) Q) := fun x4 hno => by
      rw [gb_97_76]
      refine m_passHouses_in hg n (b + 1) I _ _ m (by omega) ea hC h1 h2 h5 hm0 hm1 fun I' hF g1 g2 g3 => k I' hF ?_ ?_ ?_
      all_goals unfold gPassN; rw [if_neg hno]; assumption
    rw [gb_97_2, if_neg (by rw [z_le]; omega), gb_97_8, m_hasHouse, Option.toList_some, List.singleton_append, gb_97_13]
    by_cases hh : (b : Int) < C.1 3
    · rw [if_neg (by rw [zb_0]; exact fun e => e (by omega)), gb_97_16]
      refine ⟨g_in.mpr (by omega), ?_⟩
      rw [z_n, en, gb_97_22]
      by_cases hs : t 1 < C.1 (30 + b)
      · rw [if_neg (by rw [z_le]; omega), gb_97_29]
        refine ⟨g_in.mpr (by omega), ?_⟩
        rw [z_n, en, gb_97_35]
        by_cases hs2 : C.1 (30 + b) ≤ g
        · rw [if_neg (by rw [z_lt]; omega), gb_97_39, gb_97_44, if_neg (by decide), gb_97_51]
          refine ⟨g_in.mpr (by omega), ?_⟩
          rw [z_n, en, gb_97_57]
          by_cases hs3 : C.1 (40 + b) ≤ t 2
          · rw [if_neg (by rw [z_lt]; omega), gb_97_64, gb_97_76]
            have ho := z_orb (x := I 21 i1 5) (a := a3) (b := b) (by omega) (by omega) ha (by omega)
            rw [h5] at ho
            refine m_passHouses_in (t := t) hg n (b + 1) _ _ _ (gSetB m b) (by omega) ea (kCo_congr hC fun k j hk => by rw [u_ne (by omega)]) (by rw [u_j (by decide)]; exact h1) (by rw [u_j (by decide)]; exact h2) (by rw [u_eq]; exact ho.1) gSetB_0 ho.2 fun I' hF g1 g2 g3 => k I' (fun k i j hn => by rw [hF _ _ _ hn, u_ne hn]) ?_ ?_ ?_
            all_goals unfold gPassN; rw [if_pos ⟨hh, hs, hs2, hs3⟩]; assumption
          · rw [if_pos (by rw [z_lt]; omega)]; exact skip _ (fun e => hs3 e.2.2.2)
        · rw [if_pos (by rw [z_lt]; omega), gb_97_43, gb_97_44, if_pos rfl]; exact skip _ (fun e => hs2 e.2.2.1)
      · rw [if_pos (by rw [z_le]; omega), gb_97_43, gb_97_44, if_pos rfl]; exact skip _ (fun e => hs e.2.1)
    · rw [if_pos (by rw [zb_0]; omega), gb_97_43, gb_97_44, if_pos rfl]; exact skip _ (fun e => hh e.1)
theorem m_passHouses {i1 i2 : Nat} {a2 : Int32} {x3 x4 : Option gV} {C : gCo} {t : gSt} {g : Int} (hg : a2.toInt = g) (hC : kCo I i2 C) (h1 : (I 21 i1 1).toInt = t 1) (h2 : (I 21 i1 2).toInt = t 2) (h5 : (I 21 i1 5).toInt = t 5) (hr : 0 ≤ t 5 ∧ t 5 < 256)
    (k : ∀ (I' : Nat → Nat → Nat → Int32), (∀ k i j, ¬ ((k = 21 ∧ i = i1 ∧ j = 5)) → I' k i j = I k i j) → (I' 21 i1 5).toInt = gPassN C t g 8 0 (t 5) → 0 ≤ gPassN C t g 8 0 (t 5) → gPassN C t g 8 0 (t 5) < 256 → Q none (gwd S I' J h)) : (gq (d + 1) 97 0 [some (.inr (.inr (some (21, i1)))), some (.inr (.inr (some (34, i2)))), some (.inl (a2)), x3, x4] [] (gwd S I J h) Q) := by
  rw [gb_97_0]
  exact m_passHouses_in hg 8 0 I _ _ (t 5) rfl rfl hC h1 h2 h5 hr.1 hr.2 k
