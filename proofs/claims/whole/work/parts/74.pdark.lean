/-! The class: counts, places, asides, kindling, what is seen, images. -/
variable {d S : Nat} {h : Nat × Option gNm} {I : Nat → Nat → Nat → Int32} {J : Nat → Nat → Nat → Int64} {Q : Option gV → gW → Prop}
theorem z_tog {x a : Int32} {b : Nat} (h0 : 0 ≤ x.toInt) (h1 : x.toInt < 256) (ha : a.toInt = b) (hb : b < 8) : (x ^^^ (1 <<< (a &&& 31))).toInt = gTog x.toInt b := by
  have e := (xor_tbl x.toInt.toNat (by omega) b hb)
  rw [z_ofn a (by omega), ha, Int.toNat_natCast]
  rw [← z_ofn x h0] at e
  rw [e.1, show gTog x.toInt b = ((x.toInt.toNat ^^^ 2 ^ b : Nat) : Int) from rfl, Int32.toInt_ofNat', z_bm (by omega) (by omega)]
theorem m_has {a1 : Int32} {C : gCo} {t : gSt} {lg : Nat → Int} {nl rm : Int} {ac : List (gSt × Int)} {sn : Nat → Int} (h10 : I 10 0 10 ≠ 0) (hC : kCo I h.1 C) (hto : tOk C t) (hS : kS I 0 t) (hp : kPa I lg nl ac) (hs : kSn I sn rm) (K : ∀ x : Int32, x.toInt = gHas C t nl rm ac.length a1.toInt → Q (some (.inl x)) (gwd S I J h)) : (gq (d + 2) 120 0 [some (.inr (.inr (some (10, 0)))), some (.inl (a1))] [] (gwd S I J h) Q) := by
  have nx : ∀ {v : Int32}, ¬ a1 = v → ¬ a1.toInt = v.toInt := fun hn e => hn (z_inj e)
  have c1 := hC.1 1 (by decide)
  have s1 := hS.1 1 (by decide)
  have s2 := hS.1 2 (by decide)
  rw [gb_120_0, if_neg h10, gb_120_29]
  by_cases w0 : a1 = 0
  · rw [if_pos w0, gb_120_92]; exact K _ (by rw [w0]; exact hC.1 1 (by decide))
  have v0 : ¬ a1.toInt = 0 := nx w0
  rw [if_neg w0]
  by_cases w1 : a1 = 1
  · rw [if_pos w1, gb_120_100]; exact K _ (by rw [w1]; exact hC.1 2 (by decide))
  have v1 : ¬ a1.toInt = 1 := nx w1
  rw [if_neg w1]
  by_cases w2 : a1 = 2
  · rw [if_pos w2, gb_120_108]; exact K _ (by rw [w2]; exact hC.1 3 (by decide))
  have v2 : ¬ a1.toInt = 2 := nx w2
  rw [if_neg w2]
  by_cases w3 : a1 = 3
  · rw [if_pos w3, gb_120_116]; exact K _ (by rw [w3]; exact hS.1 0 (by decide))
  have v3 : ¬ a1.toInt = 3 := nx w3
  rw [if_neg w3]
  by_cases w4 : a1 = 4
  · rw [if_pos w4, gb_120_124]; exact K _ (by rw [w4]; exact hS.1 1 (by decide))
  have v4 : ¬ a1.toInt = 4 := nx w4
  rw [if_neg w4]
  by_cases w5 : a1 = 5
  · rw [if_pos w5, gb_120_132]; exact K _ (by rw [w5]; exact hS.1 2 (by decide))
  have v5 : ¬ a1.toInt = 5 := nx w5
  rw [if_neg w5]
  by_cases w6 : a1 = 6
  · rw [if_pos w6, gb_120_140]; exact K _ (by rw [w6]; exact hS.1 3 (by decide))
  have v6 : ¬ a1.toInt = 6 := nx w6
  rw [if_neg w6]
  by_cases w7 : a1 = 7
  · have r5 := hto.2.2.2.2.2.1
    have s5 := hS.1 5 (by decide)
    have e := zbc_tbl (t 5).toNat (by omega)
    rw [if_pos w7, gb_120_148, m_bitc, Option.toList_some, List.singleton_append, gb_120_158]
    refine K _ ?_
    rw [z_ofn (I 21 0 5) (by omega), s5, e.1, w7, Int32.toInt_ofNat', z_bm (by omega) (by omega)]; rfl
  have v7 : ¬ a1.toInt = 7 := nx w7
  rw [if_neg w7]
  by_cases w8 : a1 = 8
  · rw [if_pos w8, gb_120_159, m_isThrough, Option.toList_some, List.singleton_append, gb_120_170, s1, s2, c1]
    by_cases w : 0 < t 2 ∧ t 1 = C.1 1
    · rw [if_neg (by rw [zb_pos w]; decide), gb_120_173, gb_120_178]
      exact K _ (by rw [w8, show gHas C t nl rm ac.length (8 : Int32).toInt = if gThru C t then 1 else 0 from rfl, if_pos (show gThru C t = true from decide_eq_true w)]; rfl)
    · rw [if_pos (zb_neg w), gb_120_177, gb_120_178]
      exact K _ (by rw [w8, show gHas C t nl rm ac.length (8 : Int32).toInt = if gThru C t then 1 else 0 from rfl, if_neg (show ¬ gThru C t = true from fun e => w (of_decide_eq_true e))]; rfl)
  have v8 : ¬ a1.toInt = 8 := nx w8
  rw [if_neg w8]
  by_cases w9 : a1 = 9
  · rw [if_pos w9, gb_120_179]
    refine m_told hp.1 fun x hx => ?_
    rw [Option.toList_some, List.singleton_append, gb_120_186]
    exact K _ (by rw [w9]; exact hx)
  have v9 : ¬ a1.toInt = 9 := nx w9
  rw [if_neg w9]
  by_cases w10 : a1 = 10
  · rw [if_pos w10, gb_120_187]; exact K _ (by rw [w10]; exact hs.1)
  have v10 : ¬ a1.toInt = 10 := nx w10
  rw [if_neg w10]
  by_cases w11 : a1 = 11
  · rw [if_pos w11, gb_120_195]; exact K _ (by rw [w11]; exact hp.2.2.1)
  have v11 : ¬ a1.toInt = 11 := nx w11
  rw [if_neg w11, gb_120_203, gb_120_204]
  exact K _ (by unfold gHas; rw [if_neg v0, if_neg v1, if_neg v2, if_neg v3, if_neg v4, if_neg v5, if_neg v6, if_neg v7, if_neg v8, if_neg v9, if_neg v10, if_neg v11]; rfl)
theorem m_has0 {a1 : Int32} (h10 : I 10 0 10 = 0) (K : ∀ x : Int32, x.toInt = gHas0 a1.toInt → Q (some (.inl x)) (gwd S I J h)) : (gq (d + 2) 120 0 [some (.inr (.inr (some (10, 0)))), some (.inl (a1))] [] (gwd S I J h) Q) := by
  have e11 : (11 : Int32).toInt = 11 := rfl
  have no : gHas0 a1.toInt = -1 → (gq (d + 2) 120 27 [some (.inr (.inr (some (10, 0)))), some (.inl (a1))] [] (gwd S I J h) Q) := fun w => by
    rw [gb_120_27, gb_120_28]; exact K _ w.symm
  rw [gb_120_0, if_pos h10, gb_120_7]
  by_cases w1 : 0 ≤ a1.toInt
  case neg => rw [if_pos (by rw [z_lt, z_0]; omega)]; exact no (if_neg (by omega))
  rw [if_neg (by rw [z_lt, z_0]; omega), gb_120_11]
  by_cases w2 : a1.toInt ≤ 11
  case neg => rw [if_pos (by rw [z_lt]; omega)]; exact no (if_neg (by omega))
  rw [if_neg (by rw [z_lt]; omega), gb_120_17]
  by_cases w3 : a1 = 6
  · rw [if_pos w3]; exact no (by rw [w3]; rfl)
  · have w3' : a1.toInt ≠ 6 := fun e => w3 (z_inj e)
    rw [if_neg w3, gb_120_23, gb_120_28]
    exact K _ (by unfold gHas0; rw [if_pos ⟨w1, w2, w3'⟩]; rfl)
theorem m_placeP {a1 a2 : Int32} {C : gCo} {t : gSt} {lg : Nat → Int} {nl : Int} {ac : List (gSt × Int)} {rf : Nat → Int32} (hc : cOk C) (h10 : I 10 0 10 ≠ 0) (hC : kCo I h.1 C) (hS : kS I 0 t) (hp : kPa I lg nl ac) (hf : kRf I rf)
    (K0 : ¬ (((0 ≤ a1.toInt ∧ a1.toInt < C.1 2) ∧ a1.toInt ≠ t 3) ∧ (0 ≤ a2.toInt ∧ a2.toInt ≤ C.1 1) ∧ t (10 + a1.toInt.toNat) ≠ a2.toInt) → ∀ (I' : Nat → Nat → Nat → Int32), (∀ k i j, ¬ ((k = 33 ∧ i = 0)) → I' k i j = I k i j) → kRf I' (gRef rf 2) → Q (some (.inl 0)) (gwd S I' J h))
    (K1 : (((0 ≤ a1.toInt ∧ a1.toInt < C.1 2) ∧ a1.toInt ≠ t 3) ∧ (0 ≤ a2.toInt ∧ a2.toInt ≤ C.1 1) ∧ t (10 + a1.toInt.toNat) ≠ a2.toInt) → ∀ (I' : Nat → Nat → Nat → Int32), (∀ k i j, ¬ ((k = 28 ∧ i = 0) ∨ (k = 30 ∧ i = 0) ∨ (k = 22 ∧ i = 0)) → I' k i j = I k i j) → kS I' 0 (sUp t (10 + a1.toInt.toNat) a2.toInt) → kPa I' lg nl ((t, nl) :: ac.take 19) → Q (some (.inl 1)) (gwd S I' J h)) : (gq (d + 2) 136 0 [some (.inr (.inr (some (10, 0)))), some (.inl (a1)), some (.inl (a2))] [] (gwd S I J h) Q) := by
  have c1 := hC.1 1 (by decide)
  have rB := hc.2.2.1
  have no : ¬ (((0 ≤ a1.toInt ∧ a1.toInt < C.1 2) ∧ a1.toInt ≠ t 3) ∧ (0 ≤ a2.toInt ∧ a2.toInt ≤ C.1 1) ∧ t (10 + a1.toInt.toNat) ≠ a2.toInt) → (gq (d + 2) 136 32 [some (.inr (.inr (some (10, 0)))), some (.inl (a1)), some (.inl (a2))] [] (gwd S I J h) Q) := fun w => by
    rw [gb_136_32]
    refine m_refuseB (w := 2) rfl (by decide) hf fun I1 hF1 hf1 => ?_
    rw [Option.toList_some, List.singleton_append, gb_136_37, g_t0, true_and]
    exact K0 w I1 hF1 hf1
  rw [gb_136_0]
  refine m_waitsB hc h10 hC hS fun x hx => ?_
  rw [Option.toList_some, List.singleton_append, gb_136_5, hx]
  by_cases w1 : (0 ≤ a1.toInt ∧ a1.toInt < C.1 2) ∧ a1.toInt ≠ t 3
  case neg => rw [if_pos (zb_neg w1)]; exact no (fun e => w1 e.1)
  rw [if_neg (by rw [zb_pos w1]; decide), gb_136_8, m_hasMile, Option.toList_some, List.singleton_append, gb_136_16, c1]
  by_cases w2 : 0 ≤ a2.toInt ∧ a2.toInt ≤ C.1 1
  case neg => rw [if_pos (zb_neg w2)]; exact no (fun e => w2 e.2.1)
  rw [if_neg (by rw [zb_pos w2]; decide), gb_136_19]
  refine ⟨g_in.mpr (by omega), ?_⟩
  have hb := hS.2 a1.toInt.toNat (by omega)
  rw [z_n, gb_136_28]
  by_cases w3 : t (10 + a1.toInt.toNat) = a2.toInt
  · rw [if_pos (z_inj (by rw [hb, w3]))]; exact no (fun e => e.2.2 w3)
  rw [if_neg (fun e => w3 (by rw [← hb, e])), gb_136_38]
  refine m_remember hS hp fun I1 hF1 hp1 => ?_
  rw [Option.toList_none, List.nil_append, gb_136_49]
  refine ⟨g_in.mpr (by omega), ?_⟩
  rw [z_n, gb_136_59]
  exact K1 ⟨w1, w2, w3⟩ _ (fun k i j hn => by rw [u_ne (by omega), hF1 _ _ _ (by omega)]) (kS_upm (kS_congr hS (fun j => hF1 _ _ _ (by omega)) (fun j => hF1 _ _ _ (by omega))) rfl) (kPa_congr hp1 fun k j hk => u_ne (by omega))
theorem m_asidesP {a1 a2 : Int32} {C : gCo} {t : gSt} {lg : Nat → Int} {nl : Int} {ac : List (gSt × Int)} {rf : Nat → Int32} (hc : cOk C) (h10 : I 10 0 10 ≠ 0) (hC : kCo I h.1 C) (hto : tOk C t) (hS : kS I 0 t) (hp : kPa I lg nl ac) (hf : kRf I rf)
    (K0 : ¬ (((0 ≤ a1.toInt ∧ a1.toInt < C.1 2) ∧ a1.toInt ≠ t 3) ∧ (0 ≤ a2.toInt ∧ a2.toInt ≤ 1) ∧ gBi (t 4) a1.toInt.toNat ≠ a2.toInt) → ∀ (I' : Nat → Nat → Nat → Int32), (∀ k i j, ¬ ((k = 33 ∧ i = 0)) → I' k i j = I k i j) → kRf I' (gRef rf 2) → Q (some (.inl 0)) (gwd S I' J h))
    (K1 : (((0 ≤ a1.toInt ∧ a1.toInt < C.1 2) ∧ a1.toInt ≠ t 3) ∧ (0 ≤ a2.toInt ∧ a2.toInt ≤ 1) ∧ gBi (t 4) a1.toInt.toNat ≠ a2.toInt) → ∀ (I' : Nat → Nat → Nat → Int32), (∀ k i j, ¬ ((k = 28 ∧ i = 0) ∨ (k = 30 ∧ i = 0) ∨ (k = 21 ∧ i = 0)) → I' k i j = I k i j) → kS I' 0 (sUp t 4 (gTog (t 4) a1.toInt.toNat)) → kPa I' lg nl ((t, nl) :: ac.take 19) → Q (some (.inl 1)) (gwd S I' J h)) : (gq (d + 2) 137 0 [some (.inr (.inr (some (10, 0)))), some (.inl (a1)), some (.inl (a2))] [] (gwd S I J h) Q) := by
  have rB := hc.2.2.1
  have s4 := hS.1 4 (by decide)
  have r4 := hto.2.2.2.2.1
  have e1 : (1 : Int32).toInt = 1 := rfl
  have no : ¬ (((0 ≤ a1.toInt ∧ a1.toInt < C.1 2) ∧ a1.toInt ≠ t 3) ∧ (0 ≤ a2.toInt ∧ a2.toInt ≤ 1) ∧ gBi (t 4) a1.toInt.toNat ≠ a2.toInt) → (gq (d + 2) 137 38 [some (.inr (.inr (some (10, 0)))), some (.inl (a1)), some (.inl (a2))] [] (gwd S I J h) Q) := fun w => by
    rw [gb_137_38]
    refine m_refuseB (w := 2) rfl (by decide) hf fun I1 hF1 hf1 => ?_
    rw [Option.toList_some, List.singleton_append, gb_137_43, g_t0, true_and]
    exact K0 w I1 hF1 hf1
  rw [gb_137_0]
  refine m_waitsB hc h10 hC hS fun x hx => ?_
  rw [Option.toList_some, List.singleton_append, gb_137_5, hx]
  by_cases w1 : (0 ≤ a1.toInt ∧ a1.toInt < C.1 2) ∧ a1.toInt ≠ t 3
  case neg => rw [if_pos (zb_neg w1)]; exact no (fun e => w1 e.1)
  rw [if_neg (by rw [zb_pos w1]; decide), gb_137_8]
  by_cases w2 : 0 ≤ a2.toInt
  case neg => rw [if_pos (by rw [z_lt, z_0]; omega)]; exact no (fun e => w2 e.2.1.1)
  rw [if_neg (by rw [z_lt, z_0]; omega), gb_137_12]
  by_cases w3 : a2.toInt ≤ 1
  case neg => rw [if_pos (by rw [z_lt]; omega)]; exact no (fun e => w3 e.2.1.2)
  rw [if_neg (by rw [z_lt]; omega), gb_137_17, m_isAside, Option.toList_some, List.singleton_append, gb_137_25]
  have hb := z_bit (x := I 21 0 4) (a := a1) (b := a1.toInt.toNat) (by omega) (by omega) (by omega) (by omega)
  rw [s4] at hb
  have hz : (zb (I 21 0 4 >>> (a1 &&& 31) &&& 1 = 1)).toInt = gBi (t 4) a1.toInt.toNat := by
    unfold gBi
    by_cases e : gBit (t 4) a1.toInt.toNat = true
    · rw [zb_pos (hb.mpr e), if_pos e]; rfl
    · rw [zb_neg (fun f => e (hb.mp f)), if_neg e]; rfl
  generalize zb (I 21 0 4 >>> (a1 &&& 31) &&& 1 = 1) = s0 at hz
  have go : ∀ y : Int32, y = a2 → (gq (d + 2) 137 35 [some (.inr (.inr (some (10, 0)))), some (.inl (a1)), some (.inl (a2))] [.inl (y), .inl (s0)] (gwd S I J h) Q) := fun y hy => by
    rw [gb_137_35]
    by_cases w4 : gBi (t 4) a1.toInt.toNat = a2.toInt
    · rw [if_pos (z_inj (by rw [hz, w4, hy]))]; exact no (fun e => e.2.2 w4)
    rw [if_neg (fun e => w4 (by rw [← hz, e, hy])), gb_137_44]
    refine m_remember hS hp fun I1 hF1 hp1 => ?_
    rw [Option.toList_none, List.nil_append, gb_137_55, hF1 21 0 4 (by omega)]
    exact K1 ⟨w1, ⟨w2, w3⟩, w4⟩ _ (fun k i j hn => by rw [u_ne (by omega), hF1 _ _ _ (by omega)]) (kS_up4 (kS_congr hS (fun j => hF1 _ _ _ (by omega)) (fun j => hF1 _ _ _ (by omega))) (by rw [z_tog (b := a1.toInt.toNat) (by omega) (by omega) (by omega) (by omega), s4])) (kPa_congr hp1 fun k j hk => u_ne (by omega))
  by_cases w5 : a2 = 1
  · rw [if_pos w5, gb_137_30]; exact go 1 w5.symm
  · rw [if_neg w5, gb_137_34]
    have : a2.toInt ≠ 1 := fun e => w5 (z_inj e)
    exact go 0 (z_inj (by rw [z_0]; omega))
theorem m_kindleP {a1 : Int32} {t : gSt} {lg : Nat → Int} {nl : Int} {ac : List (gSt × Int)} {rf : Nat → Int32} (h10 : I 10 0 10 ≠ 0) (hS : kS I 0 t) (hp : kPa I lg nl ac) (hf : kRf I rf)
    (K0 : ¬ ((0 ≤ a1.toInt ∧ a1.toInt ≤ 99) ∧ t 2 ≠ a1.toInt) → ∀ (I' : Nat → Nat → Nat → Int32), (∀ k i j, ¬ ((k = 33 ∧ i = 0)) → I' k i j = I k i j) → kRf I' (gRef rf 2) → Q (some (.inl 0)) (gwd S I' J h))
    (K1 : ((0 ≤ a1.toInt ∧ a1.toInt ≤ 99) ∧ t 2 ≠ a1.toInt) → ∀ (I' : Nat → Nat → Nat → Int32), (∀ k i j, ¬ ((k = 28 ∧ i = 0) ∨ (k = 30 ∧ i = 0) ∨ (k = 21 ∧ i = 0)) → I' k i j = I k i j) → kS I' 0 (sUp t 2 a1.toInt) → kPa I' lg nl ((t, nl) :: ac.take 19) → Q (some (.inl 1)) (gwd S I' J h)) : (gq (d + 2) 138 0 [some (.inr (.inr (some (10, 0)))), some (.inl (a1))] [] (gwd S I J h) Q) := by
  have e99 : (99 : Int32).toInt = 99 := rfl
  have s2 := hS.1 2 (by decide)
  have no : ¬ ((0 ≤ a1.toInt ∧ a1.toInt ≤ 99) ∧ t 2 ≠ a1.toInt) → (gq (d + 2) 138 28 [some (.inr (.inr (some (10, 0)))), some (.inl (a1))] [] (gwd S I J h) Q) := fun w => by
    rw [gb_138_28]
    refine m_refuseB (w := 2) rfl (by decide) hf fun I1 hF1 hf1 => ?_
    rw [Option.toList_some, List.singleton_append, gb_138_33, g_t0, true_and]
    exact K0 w I1 hF1 hf1
  rw [gb_138_0, if_neg h10, gb_138_7]
  by_cases w1 : 0 ≤ a1.toInt
  case neg => rw [if_pos (by rw [z_lt, z_0]; omega)]; exact no (fun e => w1 e.1.1)
  rw [if_neg (by rw [z_lt, z_0]; omega), gb_138_11]
  by_cases w2 : a1.toInt ≤ 99
  case neg => rw [if_pos (by rw [z_lt]; omega)]; exact no (fun e => w2 e.1.2)
  rw [if_neg (by rw [z_lt]; omega), gb_138_17]
  by_cases w3 : t 2 = a1.toInt
  · rw [if_pos (z_inj (by rw [s2, w3]))]; exact no (fun e => e.2 w3)
  rw [if_neg (fun e => w3 (by rw [e, s2])), gb_138_34]
  refine m_remember hS hp fun I1 hF1 hp1 => ?_
  rw [Option.toList_none, List.nil_append, gb_138_45]
  exact K1 ⟨⟨w1, w2⟩, w3⟩ _ (fun k i j hn => by rw [u_ne (by omega), hF1 _ _ _ (by omega)]) (kS_up2 (kS_congr hS (fun j => hF1 _ _ _ (by omega)) (fun j => hF1 _ _ _ (by omega))) rfl) (kPa_congr hp1 fun k j hk => u_ne (by omega))
theorem m_seeP {x1 : Option gV} {C : gCo} {tp : Nat → Int} {ln : Int} {rf : Nat → Int32} (hc : cOk C) (h10 : I 10 0 10 ≠ 0) (hC : kCo I h.1 C) (hp : kTp I tp ln) (ho : tpOk tp ln) (hf : kRf I rf)
    (K0 : gSee C tp ln = false → ∀ (I' : Nat → Nat → Nat → Int32), (∀ k i j, ¬ ((k = 33 ∧ i = 0) ∨ (k = 11 ∧ i = 0 ∧ j = 1)) → I' k i j = I k i j) → kRf I' (gRef rf 1) → I' 11 0 1 = 0 → Q (some (.inl (Int32.ofInt (-1)))) (gwd S I' J h))
    (K1 : gSee C tp ln = true → ∀ (I' : Nat → Nat → Nat → Int32) x, (∀ k i j, ¬ ((k = 20 ∧ i = 0 ∧ j = 3) ∨ (k = 23 ∧ i = 0) ∨ (k = 24 ∧ i = 0) ∨ (k = 25 ∧ i = 0) ∨ (k = 11 ∧ i = 0 ∧ j = 1)) → I' k i j = I k i j) → I' 11 0 1 = 0 → kSn I' tp (ln / 3) → x.toInt = ln / 3 → Q (some (.inl x)) (gwd S I' J h)) : (gq (d + 2) 133 0 [some (.inr (.inr (some (10, 0)))), x1] [] (gwd S I J h) Q) := by
  rw [gb_133_0, if_neg h10, gb_133_7]
  refine m_readSeen hc hC hp ho (fun hb => ?_) fun I1 hg hF1 hs1 => ?_
  · rw [Option.toList_some, List.singleton_append, gb_133_22, if_pos rfl, gb_133_29, gb_133_30, if_pos rfl, gb_133_53]
    refine m_refuse (w := 1) (rf := rf) rfl (by decide) (fun k hk => by rw [u_k (by decide)]; exact hf k hk) fun I2 hF2 hf2 => ?_
    rw [Option.toList_some, List.singleton_append, gb_133_58]
    exact K0 hb I2 (fun k i j hn => by rw [hF2 _ _ _ (by omega), u_ne (by omega)]) hf2 (by rw [hF2 _ _ _ (by omega), u_eq])
  · rw [Option.toList_some, List.singleton_append, gb_133_22, if_neg (by decide), gb_133_25, gb_133_30, if_neg (by decide), gb_133_43, gb_133_58]
    exact K1 hg _ _ (fun k i j hn => by rw [u_ne (by omega), hF1 _ _ _ (by omega)]) u_eq (kSn_congr hs1 fun k j hk => u_ne (by omega)) (by rw [u_k (by decide)]; exact hs1.1)
theorem m_see0 {x1 : Option gV} {rf : Nat → Int32} (h10 : I 10 0 10 = 0) (hf : kRf I rf)
    (K0 : ∀ (I' : Nat → Nat → Nat → Int32), (∀ k i j, ¬ ((k = 33 ∧ i = 0) ∨ (k = 11 ∧ i = 0 ∧ j = 1)) → I' k i j = I k i j) → kRf I' (gRef rf 1) → I' 11 0 1 = 0 → Q (some (.inl (Int32.ofInt (-1)))) (gwd S I' J h)) : (gq (d + 2) 133 0 [some (.inr (.inr (some (10, 0)))), x1] [] (gwd S I J h) Q) := by
  rw [gb_133_0, if_pos h10, gb_133_29, gb_133_30, if_pos rfl, gb_133_53]
  refine m_refuse (w := 1) (rf := rf) rfl (by decide) (fun k hk => by rw [u_k (by decide)]; exact hf k hk) fun I2 hF2 hf2 => ?_
  rw [Option.toList_some, List.singleton_append, gb_133_58]
  exact K0 I2 (fun k i j hn => by rw [hF2 _ _ _ (by omega), u_ne (by omega)]) hf2 (by rw [hF2 _ _ _ (by omega), u_eq])
theorem m_imageP {C : gCo} {t : gSt} (hc : cOk C) (h10 : I 10 0 10 ≠ 0) (hC : kCo I h.1 C) (hto : tOk C t) (hS : kS I 0 t) (K : ∀ I' (x : Int32), (∀ k i j, ¬ ((k = 31 ∧ i = 0) ∨ (k = 32 ∧ i = 0)) → I' k i j = I k i j) → kIm I' (gImF (C.1 2).toNat (C.1 3).toNat t) (6 + 2 * C.1 2 + C.1 3) → x.toInt = 6 + 2 * C.1 2 + C.1 3 → Q (some (.inl x)) (gwd S I' J h)) : (gq (d + 3) 144 0 [some (.inr (.inr (some (10, 0))))] [] (gwd S I J h) Q) := by
  rw [gb_144_0, if_neg h10, gb_144_7]
  refine m_draw hc hC hto hS fun I1 hF1 hi1 => ?_
  rw [Option.toList_none, List.nil_append, gb_144_22, gb_144_32]
  exact K I1 _ hF1 hi1 hi1.1
theorem m_image0 (h10 : I 10 0 10 = 0) (K : ∀ I' (x : Int32), (∀ k i j, ¬ ((k = 31 ∧ i = 0) ∨ (k = 32 ∧ i = 0)) → I' k i j = I k i j) → kIm I' (gImF 0 0 gT0) 6 → x.toInt = 6 → Q (some (.inl x)) (gwd S I' J h)) : (gq (d + 3) 144 0 [some (.inr (.inr (some (10, 0))))] [] (gwd S I J h) Q) := by
  rw [gb_144_0, if_pos h10, gb_144_25]
  refine m_drawNothing fun I1 hF1 hi1 => ?_
  rw [Option.toList_none, List.nil_append, gb_144_32]
  exact K I1 _ hF1 hi1 hi1.1
theorem m_octetP {a1 : Int32} {im : Nat → Int} {sz : Int} (hi : kIm I im sz) (hsz : 0 ≤ sz ∧ sz ≤ 30) (K : ∀ x : Int32, x.toInt = (if 0 ≤ a1.toInt ∧ a1.toInt < sz then im a1.toInt.toNat else -1) → Q (some (.inl x)) (gwd S I J h)) : (gq (d + 1) 145 0 [some (.inr (.inr (some (10, 0)))), some (.inl (a1))] [] (gwd S I J h) Q) := by
  rw [gb_145_0]
  refine m_octet hi hsz fun x hx => ?_
  rw [Option.toList_some, List.singleton_append, gb_145_8]
  exact K x hx
theorem m_onP {x1 : Option gV} {C : gCo} {t : gSt} {tp : Nat → Int} {ln : Int} {lg : Nat → Int} {nl : Int} {ac : List (gSt × Int)} {rf : Nat → Int32} (hc : cOk C) (h10 : I 10 0 10 ≠ 0) (hC : kCo I h.1 C) (hp : kTp I tp ln) (ho : tpOk tp ln) (hS : kS I 0 t) (hpa : kPa I lg nl ac) (hf : kRf I rf)
    (K0 : gIsOf C tp ln = false → ∀ (I' : Nat → Nat → Nat → Int32), (∀ k i j, ¬ ((k = 11 ∧ i = 0 ∧ j = 1) ∨ (k = 33 ∧ i = 0)) → I' k i j = I k i j) → I' 11 0 1 = 0 → kRf I' (gRef rf 5) → Q (some (.inl 0)) (gwd S I' J h))
    (K1 : gIsOf C tp ln = true → ∀ (I' : Nat → Nat → Nat → Int32), (∀ k i j, ¬ ((k = 11 ∧ i = 0 ∧ j = 1) ∨ (k = 28 ∧ i = 0 ∧ (j = 1 ∨ j = 4)) ∨ (k = 21 ∧ i = 0) ∨ (k = 22 ∧ i = 0)) → I' k i j = I k i j) → I' 11 0 1 = 0 → kPa I' lg 0 [] → kS I' 0 (gOn C tp t) → Q (some (.inl 1)) (gwd S I' J h)) : (gq (d + 3) 146 0 [some (.inr (.inr (some (10, 0)))), x1] [] (gwd S I J h) Q) := by
  have bad : gIsOf C tp ln = false → (gq (d + 3) 146 61 [some (.inr (.inr (some (10, 0)))), some (.inl (0))] [] (gwd S I J h) Q) := fun hb => by
    rw [gb_146_61, if_pos rfl, gb_146_73]
    refine m_refuseB (w := 5) (rf := rf) rfl (by decide) (fun k hk => by rw [u_k (by decide)]; exact hf k hk) fun I2 hF2 hf2 => ?_
    rw [Option.toList_some, List.singleton_append, gb_146_78, if_pos rfl, gb_146_85, gb_146_86, g_t0, true_and]
    exact K0 hb I2 (fun k i j hn => by rw [hF2 _ _ _ (by omega), u_ne (by omega)]) (by rw [hF2 _ _ _ (by omega), u_eq]) hf2
  rw [gb_146_0, if_neg h10, gb_146_7]
  refine m_isOf hc hC hp ho fun x hx hx1 => ?_
  rw [Option.toList_some, List.singleton_append, gb_146_22]
  by_cases w : gIsOf C tp ln = true
  case neg =>
    rw [if_pos (hx.resolve_right fun e => w (hx1.mp e)), gb_146_29, gb_146_30, if_pos rfl]
    exact bad (Bool.eq_false_iff.mpr w)
  rw [if_neg (by rw [hx1.mpr w]; decide), gb_146_25, gb_146_30, if_neg (by decide), gb_146_35]
  refine m_apply hc hC hp ho hS w fun I1 hF1 hS1 => ?_
  rw [Option.toList_none, List.nil_append, gb_146_54]
  refine m_pclear (kPa_congr hpa fun k j hk => hF1 _ _ _ (by omega)) fun I2 hF2 hp2 => ?_
  rw [Option.toList_none, List.nil_append, gb_146_61, if_neg (by decide), gb_146_81, gb_146_86, g_t1, true_and]
  exact K1 w _ (fun k i j hn => by rw [u_ne (by omega), hF2 _ _ _ (by omega), hF1 _ _ _ (by omega)]) u_eq (kPa_congr hp2 fun k j hk => u_ne (by omega)) (kS_congr hS1 (fun j => by rw [u_ne (by omega), hF2 _ _ _ (by omega)]) (fun j => by rw [u_ne (by omega), hF2 _ _ _ (by omega)]))
theorem m_on0 {x1 : Option gV} {rf : Nat → Int32} (h10 : I 10 0 10 = 0) (hf : kRf I rf)
    (K0 : ∀ (I' : Nat → Nat → Nat → Int32), (∀ k i j, ¬ ((k = 11 ∧ i = 0 ∧ j = 1) ∨ (k = 33 ∧ i = 0)) → I' k i j = I k i j) → I' 11 0 1 = 0 → kRf I' (gRef rf 5) → Q (some (.inl 0)) (gwd S I' J h)) : (gq (d + 3) 146 0 [some (.inr (.inr (some (10, 0)))), x1] [] (gwd S I J h) Q) := by
  rw [gb_146_0, if_pos h10, gb_146_29, gb_146_30, if_pos rfl, gb_146_61, if_pos rfl, gb_146_73]
  refine m_refuseB (w := 5) (rf := rf) rfl (by decide) (fun k hk => by rw [u_k (by decide)]; exact hf k hk) fun I2 hF2 hf2 => ?_
  rw [Option.toList_some, List.singleton_append, gb_146_78, if_pos rfl, gb_146_85, gb_146_86, g_t0, true_and]
  exact K0 I2 (fun k i j hn => by rw [hF2 _ _ _ (by omega), u_ne (by omega)]) (by rw [hF2 _ _ _ (by omega), u_eq]) hf2
