/-! The model: bearers placed and set aside, the dark fed, hours, hours by the seed. -/
def gTog (m : Int) (b : Nat) : Int := ((m.toNat ^^^ 2 ^ b : Nat) : Int)
theorem gBit_tog {m : Int} {b i : Nat} : gBit (gTog m b) i = (gBit m i ^^ decide (b = i)) := by
  unfold gBit gTog
  rw [Int.toNat_natCast, Nat.testBit_xor, Nat.testBit_two_pow]
theorem xor_tbl : ∀ n, n < 256 → ∀ b, b < 8 → Int32.ofNat n ^^^ (1 <<< (Int32.ofNat b &&& 31)) = Int32.ofNat (n ^^^ 2 ^ b) ∧ (n ^^^ 2 ^ b) < 256 := by decide +kernel
theorem gTog_r {m : Int} {b : Nat} (h0 : 0 ≤ m) (h1 : m < 256) (hb : b < 8) : 0 ≤ gTog m b ∧ gTog m b < 256 := by
  have := (xor_tbl m.toNat (by omega) b hb).2
  unfold gTog
  omega
def gHrs (C : gCo) : Nat → gSt → (Nat → Int) → Int → Int → gSt × (Nat → Int) × Int × Int
  | 0, t, lg, nl, r => (t, lg, nl, r)
  | n + 1, t, lg, nl, r => gHrs C n (gHour C t) (gLgH C t lg nl) (gNlH C t nl) (r + gMiles C t)
def gDr (dr : Int) : Int := (1103515245 * dr + 12345) % 2147483648
def gDv (dr : Int) (m : Int) : Int := gDr dr / 64 % m
/-- hours by the seed: state, log, how many, the seed, trips -/
def gChn (C : gCo) : Nat → gSt → (Nat → Int) → Int → Int → Int → gSt × (Nat → Int) × Int × Int × Int
  | 0, t, lg, nl, dr, r => (t, lg, nl, dr, r)
  | n + 1, t, lg, nl, dr, r =>
    if gDv dr 100 < C.1 5 then gChn C n (gHour C (sUp t 2 (max 0 (t 2 - gDv (gDr dr) 10)))) (gLgH C (sUp t 2 (max 0 (t 2 - gDv (gDr dr) 10))) lg nl) (gNlH C (sUp t 2 (max 0 (t 2 - gDv (gDr dr) 10))) nl) (gDr (gDr dr)) (r + 1)
    else gChn C n (gHour C t) (gLgH C t lg nl) (gNlH C t nl) (gDr dr) r
theorem gDr_r (dr : Int) : 0 ≤ gDr dr ∧ gDr dr < 2147483648 := by unfold gDr; omega
theorem gDv_r (dr : Int) {m : Int} (hm : 0 < m) : 0 ≤ gDv dr m ∧ gDv dr m < m := ⟨Int.emod_nonneg _ (by omega), Int.emod_lt_of_pos _ hm⟩
theorem gMiles_r {C : gCo} {t : gSt} (hc : cOk C) (hto : tOk C t) : 0 ≤ gMiles C t ∧ gMiles C t ≤ 9 ∧ (gMovb C t = true → 0 < gMiles C t) := by
  unfold gMiles
  by_cases hm : gMovb C t = true
  · have hg := gGoal_r hc hto hm
    have h := gMovb_iff.mp hm
    have rp := (hc.2.2.2.2.2.2.1 (t 3).toNat (by omega)).2
    rw [if_pos hm]
    omega
  · rw [if_neg hm]
    exact ⟨by omega, by omega, fun e => absurd e hm⟩
theorem hour_nl {C : gCo} {t : gSt} {nl : Int} (hc : cOk C) (hto : tOk C t) (h0 : 0 ≤ nl) (h1 : nl ≤ t 1) : nl ≤ gNlH C t nl ∧ gNlH C t nl ≤ (gHour C t) 1 ∧ (gMovb C t = true → nl ≤ 98) := by
  have rM := hc.2.1
  have r1 := hto.2.1
  unfold gNlH gHour
  by_cases hm : gMovb C t = true
  · have hg := gGoal_r hc hto hm
    have e1 : gRan C t 1 = (gGoal C t).1 := by unfold gRan; rw [sUp_ne (by decide), sUp_ne (by decide), sUp_eq]
    rw [if_pos hm, if_pos hm, sUp_ne (by decide), e1]
    exact ⟨by omega, by omega, fun _ => by omega⟩
  · rw [if_neg hm, if_neg hm, sUp_ne (by decide)]
    exact ⟨by omega, by omega, fun e => absurd e hm⟩
/-- the acts' logs are no longer than the log -/
def acLe (nl : Int) (ac : List (gSt × Int)) : Prop := ∀ x ∈ ac, 0 ≤ x.2 ∧ x.2 ≤ nl
theorem mPa_hour {I : Nat → Nat → Nat → Int32} {C : gCo} {t : gSt} {lg : Nat → Int} {nl : Int} {ac : List (gSt × Int)} (h : mPa I C lg ac) (hl : acLe nl ac) : mPa I C (gLgH C t lg nl) ac := by
  unfold gLgH
  split
  · obtain ⟨h1, h2, nw, h3, h4, h5⟩ := h
    exact ⟨h1, h2, nw, h3, h4, mAc_log hl h5⟩
  · exact h
theorem acLe_up {nl nl' : Int} {ac : List (gSt × Int)} (h : acLe nl ac) (hle : nl ≤ nl') : acLe nl' ac := fun x hx => ⟨(h x hx).1, by have := (h x hx).2; omega⟩
variable {d S : Nat} {h : Nat × Option gNm} {I : Nat → Nat → Nat → Int32} {J : Nat → Nat → Nat → Int64} {Q : Option gV → gW → Prop}
theorem n_refuses {a1 : Int32} {w : Nat} {rf : Nat → Int32} (h1 : a1.toInt = w) (hw : w < 6) (hf : mRf I rf) (K : ∀ (I' : Nat → Nat → Nat → Int32), (∀ k i j, ¬ ((k = 52 ∧ i = 0)) → I' k i j = I k i j) → mRf I' (gRef rf w) → Q (some (.inl (Int32.ofInt (-1)))) (gwd S I' J h)) : (gq d 230 0 [some (.inr (.inr (some (50, 0)))), some (.inl (a1))] [] (gwd S I J h) Q) := by
  have n1 : a1.toNatClampNeg = w := by rw [z_n]; omega
  rw [gb_230_0]
  refine ⟨g_in.mpr (by omega), ?_⟩
  rw [gb_230_7]
  refine ⟨g_in.mpr (by omega), ?_⟩
  rw [n1, gb_230_10, gb_230_11]
  refine K _ (fun k i j hn => u_ne (by omega)) fun k hk => ?_
  rw [u_at]
  unfold gRef
  split
  · rename_i e; rw [e, hf w hw]
  · exact hf k hk
theorem n_isChanged {a1 a2 a3 : Int32} {k : Nat} {C : gCo} {t : gSt} {lg : Nat → Int} {nl : Int} {ac : List (gSt × Int)} {rf : Nat → Int32} (hc : cOk C) (hS : mS I C t) (hk : mKp I lg nl) (hp : mPa I C lg ac) (hf : mRf I rf) (h1 : a1 = 0 ∨ a1 = 1) (h2 : a1 = 1 → a2.toInt = k) (hk28 : k < 28)
    (K0 : (a1 = 0 ∨ I 61 0 k = a3) → ∀ (I' : Nat → Nat → Nat → Int32), (∀ k i j, ¬ ((k = 52 ∧ i = 0)) → I' k i j = I k i j) → mRf I' (gRef rf 2) → Q (some (.inl 0)) (gwd S I' J h))
    (K1 : a1 = 1 → I 61 0 k ≠ a3 → ∀ (I' : Nat → Nat → Nat → Int32), (∀ k i j, ¬ ((k = 50 ∧ i = 0 ∧ (j = 70 ∨ j = 71)) ∨ (k = 67 ∧ i = 0)) → I' k i j = I k i j) → mPa I' C lg ((t, nl) :: ac.take 19) → Q (some (.inl 1)) (gwd S (gup I' 61 0 k a3) J h)) : (gq (d + 1) 239 0 [some (.inr (.inr (some (50, 0)))), some (.inl (a1)), some (.inl (a2)), some (.inl (a3))] [] (gwd S I J h) Q) := by
  have no : (a1 = 0 ∨ I 61 0 k = a3) → (gq (d + 1) 239 14 [some (.inr (.inr (some (50, 0)))), some (.inl (a1)), some (.inl (a2)), some (.inl (a3))] [] (gwd S I J h) Q) := fun hno => by
    rw [gb_239_14]
    refine ⟨rfl, ?_⟩
    rw [gb_239_21]
    refine ⟨rfl, ?_⟩
    rw [show (2 : Int32).toNatClampNeg = 2 from rfl, gb_239_24]
    refine K0 hno _ (fun k i j hn => u_ne (by omega)) fun k hk => ?_
    rw [u_at]
    unfold gRef
    split
    · rename_i e; rw [e, hf 2 (by decide)]
    · exact hf k hk
  rw [gb_239_0]
  by_cases hz : a1 = 0
  · rw [if_pos hz]; exact no (Or.inl hz)
  · have ho := h1.resolve_left hz
    have n2 : a2.toNatClampNeg = k := by rw [z_n, h2 ho]; omega
    rw [if_neg hz, gb_239_4]
    refine ⟨g_in.mpr (by have := h2 ho; omega), ?_⟩
    rw [n2, gb_239_10]
    by_cases he : I 61 0 k = a3
    · rw [if_pos he]; exact no (Or.inr he)
    · rw [if_neg he, gb_239_26]
      refine n_keeps hc hS hk hp fun I1 hF1 hp1 => ?_
      rw [Option.toList_none, List.nil_append, gb_239_30]
      refine ⟨g_in.mpr (by have := h2 ho; omega), ?_⟩
      rw [n2, gb_239_37]
      exact K1 ho he I1 hF1 hp1
theorem n_waits {a1 : Int32} {C : gCo} {t : gSt} (hc : cOk C) (hC : mCo I C) (hS : mS I C t) : (gq (d + 2) 240 0 [some (.inr (.inr (some (50, 0)))), some (.inl (a1))] [] (gwd S I J h) Q) ↔ Q (some (.inl (zb ((0 ≤ a1.toInt ∧ a1.toInt < C.1 2) ∧ a1.toInt ≠ t 3)))) (gwd S I J h) := by
  have rB := hc.2.2.1
  have c2 := hC.1.2.1
  obtain ⟨s0, s1, s2, s3⟩ := hS.1
  rw [gb_240_0, n_isBearer (by omega), Option.toList_some, List.singleton_append, gb_240_6, z_64, c2]
  by_cases w1 : 0 ≤ a1.toInt ∧ a1.toInt < C.1 2
  · rw [if_neg (by rw [zb_pos w1]; decide), gb_240_9, show (3 : Int32).toNatClampNeg = 3 from rfl, gb_240_16]
    by_cases w2 : a1.toInt = t 3
    · rw [if_pos (z_inj (by omega)), gb_240_23, gb_240_24, g_t0, true_and, zb_neg (fun e => e.2 w2)]; exact ⟨fun h => h.2, fun h => ⟨rfl, h⟩⟩
    · rw [if_neg (fun e => w2 (by rw [← s3, ← e])), gb_240_19, gb_240_24, g_t1, true_and, zb_pos ⟨w1, w2⟩]; exact ⟨fun h => h.2, fun h => ⟨rfl, h⟩⟩
  · rw [if_pos (zb_neg w1), gb_240_23, gb_240_24, g_t0, true_and, zb_neg (fun e => w1 e.1)]
theorem n_place {a1 a2 : Int32} {x3 : Option gV} {C : gCo} {t : gSt} {lg : Nat → Int} {nl : Int} {ac : List (gSt × Int)} {rf : Nat → Int32} (hc : cOk C) (hC : mCo I C) (hS : mS I C t) (hk : mKp I lg nl) (hp : mPa I C lg ac) (hf : mRf I rf)
    (K0 : ¬ (((0 ≤ a1.toInt ∧ a1.toInt < C.1 2) ∧ a1.toInt ≠ t 3) ∧ (0 ≤ a2.toInt ∧ a2.toInt ≤ C.1 1) ∧ t (10 + a1.toInt.toNat) ≠ a2.toInt) → ∀ (I' : Nat → Nat → Nat → Int32), (∀ k i j, ¬ ((k = 52 ∧ i = 0)) → I' k i j = I k i j) → mRf I' (gRef rf 2) → Q (some (.inl 0)) (gwd S I' J h))
    (K1 : (((0 ≤ a1.toInt ∧ a1.toInt < C.1 2) ∧ a1.toInt ≠ t 3) ∧ (0 ≤ a2.toInt ∧ a2.toInt ≤ C.1 1) ∧ t (10 + a1.toInt.toNat) ≠ a2.toInt) → ∀ (I' : Nat → Nat → Nat → Int32), (∀ k i j, ¬ ((k = 50 ∧ i = 0 ∧ (j = 70 ∨ j = 71)) ∨ (k = 67 ∧ i = 0) ∨ (k = 61 ∧ i = 0)) → I' k i j = I k i j) → mS I' C (sUp t (10 + a1.toInt.toNat) a2.toInt) → mKp I' lg nl → mPa I' C lg ((t, nl) :: ac.take 19) → Q (some (.inl 1)) (gwd S I' J h)) : (gq (d + 3) 241 0 [some (.inr (.inr (some (50, 0)))), some (.inl (a1)), some (.inl (a2)), x3] [] (gwd S I J h) Q) := by
  have e2 : (2 : Int32).toInt = 2 := rfl
  have e4 : (4 : Int32).toInt = 4 := rfl
  have rB := hc.2.2.1
  have c1 := hC.1.1
  rw [gb_241_0, n_waits hc hC hS, Option.toList_some, List.singleton_append, gb_241_5]
  have go : ∀ y : Int32, (y = 0 ∨ y = 1) → (y = 1 ↔ ((0 ≤ a1.toInt ∧ a1.toInt < C.1 2) ∧ a1.toInt ≠ t 3) ∧ (0 ≤ a2.toInt ∧ a2.toInt ≤ C.1 1)) → (gq (d + 3) 241 21 [some (.inr (.inr (some (50, 0)))), some (.inl (a1)), some (.inl (a2)), x3] [.inl (y)] (gwd S I J h) Q) := fun y hy hy1 => by
    have fin : ∀ z : Int32, (y = 1 → z.toInt = ((4 + 2 * a1.toInt.toNat : Nat) : Int)) → (gq (d + 3) 241 37 [some (.inr (.inr (some (50, 0)))), some (.inl (a1)), some (.inl (a2)), some (.inl (y))] [.inl (z), .inl (y), .inr (.inr (some (50, 0)))] (gwd S I J h) Q) := fun z hz => by
      rw [gb_241_37]
      have hk28 : y = 1 → 4 + 2 * a1.toInt.toNat < 28 := fun e => by have := hy1.mp e; omega
      by_cases hb : 4 + 2 * a1.toInt.toNat < 28
      · refine n_isChanged (k := 4 + 2 * a1.toInt.toNat) hc hS hk hp hf hy hz hb (fun hno I1 hF1 hf1 => ?_) (fun h1 hne I1 hF1 hp1 => ?_)
        · rw [Option.toList_some, List.singleton_append, gb_241_41, g_t0, true_and]
          refine K0 (fun e => ?_) I1 hF1 hf1
          rcases hno with h | h
          · rw [hy1.mpr ⟨e.1, e.2.1⟩] at h; exact absurd h (by decide)
          · have := (hS.2.1 a1.toInt.toNat (by omega)).1; rw [h] at this; exact e.2.2 this.symm
        · have hcan := hy1.mp h1
          rw [Option.toList_some, List.singleton_append, gb_241_41, g_t1, true_and]
          have hne' : t (10 + a1.toInt.toNat) ≠ a2.toInt := fun e => hne (z_inj (by rw [(hS.2.1 a1.toInt.toNat (by omega)).1, e]))
          refine K1 ⟨hcan.1, hcan.2, hne'⟩ _ (fun k i j hn => by rw [u_ne (by omega), hF1 _ _ _ (by omega)]) (mS_upm hc (by omega) (mS_congr hc hS fun j _ => hF1 _ _ _ (by omega)) rfl) (mKp_congr hk fun j hj => by rw [u_j (by omega), hF1 _ _ _ (by omega)]) (mPa_congr hp1 fun k j hk => u_ne (by omega))
      · have hy0 : y = 0 := hy.resolve_right fun e => hb (hk28 e)
        refine n_isChanged (k := 0) hc hS hk hp hf hy (fun e => by rw [hy0] at e; exact absurd e (by decide)) (by decide) (fun hno I1 hF1 hf1 => ?_) (fun h1 hne I1 hF1 hp1 => ?_)
        · rw [Option.toList_some, List.singleton_append, gb_241_41, g_t0, true_and]
          refine K0 (fun e => ?_) I1 hF1 hf1
          have := hy1.mpr ⟨e.1, e.2.1⟩
          rw [hy0] at this; exact absurd this (by decide)
        · rw [hy0] at h1; exact absurd h1 (by decide)
    rw [gb_241_21]
    by_cases hz : y = 0
    · rw [if_pos hz, gb_241_36]
      exact fin 0 (fun e => by rw [hz] at e; exact absurd e (by decide))
    · rw [if_neg hz, gb_241_28]
      refine fin _ (fun e => ?_)
      have hcan := hy1.mp e
      have q0 : (2 * a1).toInt = 2 * a1.toInt := by rw [z_mul (by rw [e2]; omega) (by rw [e2]; omega), e2]
      rw [z_add (by omega) (by omega), q0, e4]; omega
  by_cases w1 : (0 ≤ a1.toInt ∧ a1.toInt < C.1 2) ∧ a1.toInt ≠ t 3
  case neg =>
    rw [if_pos (zb_neg w1), gb_241_20]
    exact go 0 (Or.inl rfl) ⟨fun e => absurd e (by decide), fun e => absurd e.1 w1⟩
  rw [if_neg (by rw [zb_pos w1]; decide), gb_241_8, n_isMile, Option.toList_some, List.singleton_append, gb_241_13, c1]
  by_cases w2 : 0 ≤ a2.toInt ∧ a2.toInt ≤ C.1 1
  · rw [if_neg (by rw [zb_pos ⟨hC.2.2.2.2, w2⟩]; decide), gb_241_16]
    exact go 1 (Or.inr rfl) ⟨fun _ => ⟨w1, w2⟩, fun _ => rfl⟩
  · rw [if_pos (zb_neg (fun e => w2 e.2)), gb_241_20]
    exact go 0 (Or.inl rfl) ⟨fun e => absurd e (by decide), fun e => absurd e.2 w2⟩
theorem n_kindle {a1 : Int32} {C : gCo} {t : gSt} {lg : Nat → Int} {nl : Int} {ac : List (gSt × Int)} {rf : Nat → Int32} (hc : cOk C) (hC : mCo I C) (hS : mS I C t) (hk : mKp I lg nl) (hp : mPa I C lg ac) (hf : mRf I rf)
    (K0 : ¬ ((0 ≤ a1.toInt ∧ a1.toInt ≤ 99) ∧ t 2 ≠ a1.toInt) → ∀ (I' : Nat → Nat → Nat → Int32), (∀ k i j, ¬ ((k = 52 ∧ i = 0)) → I' k i j = I k i j) → mRf I' (gRef rf 2) → Q (some (.inl 0)) (gwd S I' J h))
    (K1 : ((0 ≤ a1.toInt ∧ a1.toInt ≤ 99) ∧ t 2 ≠ a1.toInt) → ∀ (I' : Nat → Nat → Nat → Int32), (∀ k i j, ¬ ((k = 50 ∧ i = 0 ∧ (j = 70 ∨ j = 71)) ∨ (k = 67 ∧ i = 0) ∨ (k = 61 ∧ i = 0)) → I' k i j = I k i j) → mS I' C (sUp t 2 a1.toInt) → mKp I' lg nl → mPa I' C lg ((t, nl) :: ac.take 19) → Q (some (.inl 1)) (gwd S I' J h)) : (gq (d + 2) 243 0 [some (.inr (.inr (some (50, 0)))), some (.inl (a1))] [] (gwd S I J h) Q) := by
  have y99 : (99 : Int64).toInt = 99 := rfl
  have go : ∀ y : Int32, (y = 0 ∨ y = 1) → (y = 1 ↔ (0 ≤ a1.toInt ∧ a1.toInt ≤ 99)) → (gq (d + 2) 243 25 [some (.inr (.inr (some (50, 0)))), some (.inl (a1))] [.inl (y), .inr (.inr (some (50, 0)))] (gwd S I J h) Q) := fun y hy hy1 => by
    rw [gb_243_25]
    refine n_isChanged (k := 2) hc hS hk hp hf hy (fun _ => rfl) (by decide) (fun hno I1 hF1 hf1 => ?_) (fun h1 hne I1 hF1 hp1 => ?_)
    · rw [Option.toList_some, List.singleton_append, gb_243_30, g_t0, true_and]
      refine K0 (fun e => ?_) I1 hF1 hf1
      rcases hno with h | h
      · rw [hy1.mpr e.1] at h; exact absurd h (by decide)
      · have := hS.1.2.2.1; rw [h] at this; exact e.2 this.symm
    · rw [Option.toList_some, List.singleton_append, gb_243_30, g_t1, true_and]
      have hne' : t 2 ≠ a1.toInt := fun e => hne (z_inj (by rw [hS.1.2.2.1, e]))
      exact K1 ⟨hy1.mp h1, hne'⟩ _ (fun k i j hn => by rw [u_ne (by omega), hF1 _ _ _ (by omega)]) (mS_up2 (mS_congr hc hS fun j _ => hF1 _ _ _ (by omega)) rfl) (mKp_congr hk fun j hj => by rw [u_j (by omega), hF1 _ _ _ (by omega)]) (mPa_congr hp1 fun k j hk => u_ne (by omega))
  rw [gb_243_0, if_neg hC.2.2.2.2, gb_243_8, n_isIn, Option.toList_some, List.singleton_append, gb_243_17, z_64, yi_0, y99]
  by_cases w : 0 ≤ a1.toInt ∧ a1.toInt ≤ 99
  · rw [if_neg (by rw [zb_pos w]; decide), gb_243_20]
    exact go 1 (Or.inr rfl) ⟨fun _ => w, fun _ => rfl⟩
  · rw [if_pos (zb_neg w), gb_243_24]
    exact go 0 (Or.inl rfl) ⟨fun e => absurd e (by decide), fun e => absurd e w⟩
