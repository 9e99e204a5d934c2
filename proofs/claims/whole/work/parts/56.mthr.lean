/-! The model: hours thought of. -/
def FT (I I' : Nat → Nat → Nat → Int32) : Prop := ∀ k i j, ¬ (k = 50 ∧ i = 0 ∧ ((49 ≤ j ∧ j ≤ 63 ∧ j ≠ 62) ∨ j = 105) ∨ k = 61 ∧ i = 0 ∧ j < 28) → I' k i j = I k i j
theorem FT_refl {I : Nat → Nat → Nat → Int32} : FT I I := fun _ _ _ _ => rfl
theorem FT_trans {I I' I'' : Nat → Nat → Nat → Int32} (h1 : FT I I') (h2 : FT I' I'') : FT I I'' := fun k i j hn => by rw [h2 k i j hn, h1 k i j hn]
def gLgH (C : gCo) (t : gSt) (lg : Nat → Int) (nl : Int) : Nat → Int := if gMovb C t then gLog lg nl (t 0) (t 3) ((gRan C t) 1) ((gRan C t) 2) else lg
def gNlH (C : gCo) (t : gSt) (nl : Int) : Int := if gMovb C t then nl + 1 else nl
variable {d S : Nat} {h : Nat × Option gNm} {I : Nat → Nat → Nat → Int32} {J : Nat → Nat → Nat → Int64} {Q : Option gV → gW → Prop}
theorem n_isOut {v : Int} (hS : (I 61 0 2).toInt = v) : (gq d 199 0 [some (.inr (.inr (some (50, 0))))] [] (gwd S I J h) Q) ↔ Q (some (.inl (zb (v = 0)))) (gwd S I J h) := by
  rw [gb_199_0, show (2 : Int32).toNatClampNeg = 2 from rfl, gb_199_6]
  by_cases w : v = 0
  · rw [if_pos (z_inj (by rw [hS, w]; rfl)), gb_199_9, gb_199_14, g_t1, true_and, zb_pos w]; exact ⟨fun h => h.2, fun h => ⟨rfl, h⟩⟩
  · rw [if_neg (fun e => w (by rw [← hS, e]; rfl)), gb_199_13, gb_199_14, g_t0, true_and, zb_neg w]; exact ⟨fun h => h.2, fun h => ⟨rfl, h⟩⟩
theorem n_isThrough {C : gCo} {t : gSt} (hC : mCo I C) (hS : mS I C t) (h2 : 0 ≤ t 2) : (gq (d + 1) 200 0 [some (.inr (.inr (some (50, 0))))] [] (gwd S I J h) Q) ↔ Q (some (.inl (zb (gThru C t = true)))) (gwd S I J h) := by
  obtain ⟨s0, s1, s2, s3⟩ := hS.1
  have c1 := hC.1.1
  rw [gb_200_0, if_neg hC.2.2.2.2, gb_200_7, show (1 : Int32).toNatClampNeg = 1 from rfl, gb_200_13, n_miles, Option.toList_some, List.singleton_append, gb_200_17]
  by_cases w1 : t 1 = C.1 1
  · rw [if_pos (z_inj (by rw [s1, c1, w1])), gb_200_20, n_isOut s2, Option.toList_some, List.singleton_append, gb_200_24]
    by_cases w2 : t 2 = 0
    · rw [if_neg (by rw [zb_pos w2]; decide), gb_200_31, gb_200_32, g_t0, true_and, zb_neg (fun e => by have := (gThru_iff.mp e).1; omega)]; exact ⟨fun h => h.2, fun h => ⟨rfl, h⟩⟩
    · rw [if_pos (zb_neg w2), gb_200_27, gb_200_32, g_t1, true_and, zb_pos (gThru_iff.mpr ⟨by omega, w1⟩)]; exact ⟨fun h => h.2, fun h => ⟨rfl, h⟩⟩
  · rw [if_neg (fun e => w1 (by rw [← s1, e, c1])), gb_200_31, gb_200_32, g_t0, true_and, zb_neg (fun e => w1 (gThru_iff.mp e).2)]; exact ⟨fun h => h.2, fun h => ⟨rfl, h⟩⟩
theorem n_hourGoes {C : gCo} {t : gSt} {th : Bool} {lg : Nat → Int} {nl : Int} (hc : cOk C) (hC : mCo I C) (hto : tOk C t) (h19 : t 0 ≤ 1999) (hS : mS I C t) (hth : if th then I 50 0 62 ≠ 0 else I 50 0 62 = 0 ∧ mKp I lg nl ∧ 0 ≤ nl ∧ (gMovb C t = true → nl ≤ 98))
    (K : ∀ I' (J' : Nat → Nat → Nat → Int64), (∀ k i j, ¬ ((k = 50 ∧ i = 0 ∧ (j = 49 ∨ j = 52 ∨ j = 53 ∨ j = 54 ∨ j = 55 ∨ j = 56 ∨ j = 57 ∨ j = 58 ∨ j = 59 ∨ j = 63 ∨ j = 105)) ∨ (k = 61 ∧ i = 0)) → I' k i j = I k i j) → FJ J J' → (I' 50 0 63 = I 50 0 63 + Int32.ofInt (gMiles C t)) → mS I' C (gHourM C t) → (th = true → ∀ j, 28 ≤ j → I' 61 0 j = I 61 0 j) → (th = false → mKp I' (gLgH C t lg nl) (gNlH C t nl)) → Q none (gwd S I' J' h)) : (gq (d + 7) 206 0 [some (.inr (.inr (some (50, 0))))] [] (gwd S I J h) Q) := by
  have e1 : (1 : Int32).toInt = 1 := rfl
  have r0 := hto.1
  have r2 := hto.2.2.1
  have r3 := hto.2.2.2.1
  have rB := hc.2.2.1
  obtain ⟨s0, s1, s2, s3⟩ := hS.1
  have last : ∀ (I1 : Nat → Nat → Nat → Int32) (J1 : Nat → Nat → Nat → Int64) (t1 : gSt), (∀ k i j, ¬ ((k = 50 ∧ i = 0 ∧ (j = 49 ∨ j = 52 ∨ j = 53 ∨ j = 54 ∨ j = 55 ∨ j = 56 ∨ j = 57 ∨ j = 58 ∨ j = 59 ∨ j = 63 ∨ j = 105)) ∨ (k = 61 ∧ i = 0)) → I1 k i j = I k i j) → FJ J J1 → (I1 50 0 63 = I 50 0 63 + Int32.ofInt (gMiles C t)) → I1 61 0 0 = I 61 0 0 → mS I1 C t1 → sUp t1 0 (t 0 + 1) = gHourM C t → (th = true → ∀ j, 28 ≤ j → I1 61 0 j = I 61 0 j) → (th = false → mKp I1 (gLgH C t lg nl) (gNlH C t nl)) → (gq (d + 7) 206 28 [some (.inr (.inr (some (50, 0))))] [] (gwd S I1 J1 h) Q) := fun I1 J1 t1 hF hFJ h63 h0 hS1 ht1 k1 k2 => by
    rw [gb_206_28]
    refine ⟨rfl, ?_⟩
    rw [show (0 : Int32).toNatClampNeg = 0 from rfl, gb_206_35]
    refine ⟨rfl, ?_⟩
    rw [show (0 : Int32).toNatClampNeg = 0 from rfl, gb_206_38]
    obtain ⟨p1, p2, p3⟩ := hS1
    have ha : (I1 61 0 0 + 1).toInt = t 0 + 1 := by rw [h0, z_add (by omega) (by omega), s0, e1]
    refine K _ J1 (fun k i j hn => by rw [u_ne (by omega), hF _ _ _ hn]) hFJ (by rw [u_ne (by omega)]; exact h63) ⟨⟨?_, ?_, ?_, ?_⟩, fun b hb => ?_, fun b hb => ?_⟩ (fun e j hj => by rw [u_j (by omega)]; exact k1 e j hj) (fun e => mKp_congr (k2 e) fun j hj => u_j (by omega))
    · rw [u_eq, ← ht1, sUp_eq]; exact ha
    · rw [u_j (by decide), ← ht1, sUp_ne (by decide)]; exact p1.2.1
    · rw [u_j (by decide), ← ht1, sUp_ne (by decide)]; exact p1.2.2.1
    · rw [u_j (by decide), ← ht1, sUp_ne (by decide)]; exact p1.2.2.2
    · rw [u_j (by omega), u_j (by omega), ← ht1, sUp_ne (by omega), sUp_ne (by decide)]; exact p2 b hb
    · rw [u_j (by omega), ← ht1, sUp_ne (by decide)]; exact p3 b hb
  have stay : gMovb C t = false → (gq (d + 7) 206 28 [some (.inr (.inr (some (50, 0))))] [] (gwd S I J h) Q) := fun hno => by
    have hm : gMiles C t = 0 := by unfold gMiles; rw [hno]; rfl
    refine last I J t (fun _ _ _ _ => rfl) FJ_refl (by rw [hm]; exact (z_inj (by rw [Int32.toInt_add]; have := z_lo (I 50 0 63); have := z_hi (I 50 0 63); rw [show (Int32.ofInt 0).toInt = 0 from rfl, Int.add_zero, z_bm (by omega) (by omega)])).symm) rfl hS (by unfold gHourM; rw [hno]; rfl) (fun _ _ _ => rfl) (fun e => ?_)
    rw [e] at hth
    unfold gLgH gNlH
    rw [hno]
    exact hth.2.1
  rw [gb_206_0]
  refine ⟨rfl, ?_⟩
  rw [show (3 : Int32).toNatClampNeg = 3 from rfl, gb_206_6, gb_206_7]
  by_cases w3 : t 3 = -1
  · rw [if_pos (z_inj (by rw [s3, w3, z_m1]))]
    exact stay (decide_eq_false (by omega))
  rw [if_neg (fun e => w3 (by rw [← s3, e, z_m1])), gb_206_10, n_isOut s2, Option.toList_some, List.singleton_append, gb_206_14]
  by_cases w2 : t 2 = 0
  · rw [if_neg (by rw [zb_pos w2]; decide)]
    exact stay (decide_eq_false (by omega))
  rw [if_pos (zb_neg w2), gb_206_17, n_isThrough hC hS (by omega), Option.toList_some, List.singleton_append, gb_206_21]
  by_cases w1 : gThru C t = true
  · rw [if_neg (by rw [zb_pos w1]; decide)]
    exact stay (decide_eq_false (by have := (gThru_iff.mp w1).2; omega))
  have hmv : gMovb C t = true := gMovb_iff.mpr ⟨by omega, r3.2, by omega, by omega, fun e => w1 (gThru_iff.mpr ⟨by omega, e⟩)⟩
  rw [if_pos (zb_neg w1), gb_206_24]
  refine n_isRun (th := th) (lg := lg) (nl := nl) hc hC hto hS hmv ?_ fun I1 J1 hF1 hFJ1 h63 h0 hS1 hk => ?_
  · unfold mTh
    cases th with
    | true => exact hth
    | false => exact ⟨hth.1, hth.2.1, hth.2.2.1, hth.2.2.2 hmv⟩
  · rw [Option.toList_none, List.nil_append]
    refine last I1 J1 (gRan C t) hF1 hFJ1 (by rw [h63]; unfold gMiles; rw [hmv]; rfl) h0 hS1 (by unfold gHourM; rw [hmv]; rfl) (fun e => ?_) (fun e => ?_)
    · subst e; exact hk
    · subst e; unfold gLgH gNlH; rw [hmv]; exact hk
theorem n_hourT {C : gCo} {t : gSt} (hc : cOk C) (hC : mCo I C) (hto : tOk C t) (h19 : t 0 ≤ 1999) (hS : mS I C t) (hth : I 50 0 62 ≠ 0)
    (K : ∀ I' (J' : Nat → Nat → Nat → Int64), FT I I' → FJ J J' → mS I' C (gHourM C t) → Q none (gwd S I' J' h)) : (gq (d + 7) 206 0 [some (.inr (.inr (some (50, 0))))] [] (gwd S I J h) Q) := by
  refine n_hourGoes (th := true) (lg := fun _ => 0) (nl := 0) hc hC hto h19 hS hth fun I1 J1 hF1 hFJ1 _ hS1 hk _ => K I1 J1 (fun k i j hn => ?_) hFJ1 hS1
  by_cases e : k = 61 ∧ i = 0
  · obtain ⟨rfl, rfl⟩ := e
    exact hk rfl j (by omega)
  · exact hF1 _ _ _ (by omega)
theorem n_hoursT_loop {C : gCo} {a1 : Int32} (hc : cOk C) : ∀ (n : Nat) (k : Int) (t : gSt) (I : Nat → Nat → Nat → Int32) (J : Nat → Nat → Nat → Int64) (a2 : Int32), a1.toInt = k + n → 0 ≤ k → a2.toInt = k → mCo I C → tOk C t → t 0 + n ≤ 999 → mS I C t → I 50 0 62 ≠ 0 →
    (∀ I' (J' : Nat → Nat → Nat → Int64), FT I I' → FJ J J' → mS I' C (gIt C n t) → Q none (gwd S I' J' h)) → (gq (d + 8) 207 7 [some (.inr (.inr (some (50, 0)))), some (.inl (a1)), some (.inl (a2))] [] (gwd S I J h) Q)
  | 0, k, t, I, J, a2, h1, hk, h2, hC, hto, h9, hS, hth, K => by
    rw [gb_207_7, if_pos (by rw [z_le]; omega), gb_207_22]
    exact K I J FT_refl FJ_refl hS
  | n + 1, k, t, I, J, a2, h1, hk, h2, hC, hto, h9, hS, hth, K => by
    have e1 : (1 : Int32).toInt = 1 := rfl
    have := z_hi a1
    rw [gb_207_7, if_neg (by rw [z_le]; omega), gb_207_12]
    refine n_hourT hc hC hto (by omega) hS hth fun I1 J1 hF1 hFJ1 hS1 => ?_
    rw [gHourM_eq (by omega)] at hS1
    rw [Option.toList_none, List.nil_append, gb_207_16]
    exact n_hoursT_loop hc n (k + 1) (gHour C t) I1 J1 _ (by omega) (by omega) (by rw [z_add (by omega) (by omega), h2, e1]) (mCo_congr hC fun k j hk => hF1 _ _ _ (by omega)) (tOk_hour hc hto) (by rw [gHour_0]; omega) hS1 (by rw [hF1 _ _ _ (by omega)]; exact hth) fun I2 J2 hF2 hFJ2 hS2 => K I2 J2 (FT_trans hF1 hF2) (FJ_trans hFJ1 hFJ2) hS2
theorem n_hoursT {C : gCo} {t : gSt} {a1 : Int32} {x2 : Option gV} {n : Nat} (hc : cOk C) (h1 : a1.toInt = n) (hC : mCo I C) (hto : tOk C t) (h9 : t 0 + n ≤ 999) (hS : mS I C t) (hth : I 50 0 62 ≠ 0)
    (K : ∀ I' (J' : Nat → Nat → Nat → Int64), FT I I' → FJ J J' → mS I' C (gIt C n t) → Q none (gwd S I' J' h)) : (gq (d + 8) 207 0 [some (.inr (.inr (some (50, 0)))), some (.inl (a1)), x2] [] (gwd S I J h) Q) := by
  rw [gb_207_0]
  exact n_hoursT_loop hc n 0 t _ J _ (by omega) (by omega) rfl (mCo_congr hC fun k j hk => u_ne (by omega)) hto h9 (mS_congr hc hS fun j _ => u_ne (by omega)) (by rw [u_ne (by omega)]; exact hth) fun I2 J2 hF2 hFJ2 hS2 => K I2 J2 (fun k i j hn => by rw [hF2 _ _ _ hn, u_ne (by omega)]) hFJ2 hS2
theorem n_puts_loop : ∀ (n b : Nat) (I : Nat → Nat → Nat → Int32) (a1 : Int32), b + n = 28 → a1.toInt = b → (∀ j, j < b → I 62 0 j = I 61 0 j) →
    (∀ (I' : Nat → Nat → Nat → Int32), (∀ k i j, ¬ ((k = 62 ∧ i = 0)) → I' k i j = I k i j) → (∀ j, j < 28 → I' 62 0 j = I 61 0 j) → Q none (gwd S I' J h)) → (gq d 208 7 [some (.inr (.inr (some (50, 0)))), some (.inl (a1))] [] (gwd S I J h) Q)
  | 0, b, I, a1, hn, h1, hl, K => by
    have e28 : (28 : Int32).toInt = 28 := rfl
    rw [gb_208_7, if_pos (by rw [z_le]; omega), gb_208_31]
    exact K I (fun _ _ _ _ => rfl) (fun j hj => hl j (by omega))
  | n + 1, b, I, a1, hn, h1, hl, K => by
    have e28 : (28 : Int32).toInt = 28 := rfl
    have e1 : (1 : Int32).toInt = 1 := rfl
    have n1 : a1.toNatClampNeg = b := by rw [z_n]; omega
    rw [gb_208_7, if_neg (by rw [z_le]; omega), gb_208_13]
    refine ⟨g_in.mpr (by omega), ?_⟩
    rw [gb_208_24]
    refine ⟨g_in.mpr (by omega), ?_⟩
    rw [n1, gb_208_25]
    refine n_puts_loop n (b + 1) _ _ (by omega) (by rw [z_add (by omega) (by omega), h1, e1]; rfl) (fun j hj => ?_) fun I' hF g => K I' (fun k i j hn => by rw [hF _ _ _ hn, u_ne (by omega)]) (fun j hj => by rw [g j hj, u_k (by decide)])
    rw [u_at, u_k (by decide)]
    split
    · rename_i e; rw [e]
    · exact hl j (by omega)
theorem n_putsAside {x1 : Option gV} (K : ∀ (I' : Nat → Nat → Nat → Int32), (∀ k i j, ¬ ((k = 50 ∧ i = 0 ∧ j = 62) ∨ (k = 62 ∧ i = 0)) → I' k i j = I k i j) → I' 50 0 62 ≠ 0 → (∀ j, j < 28 → I' 62 0 j = I 61 0 j) → Q none (gwd S I' J h)) : (gq d 208 0 [some (.inr (.inr (some (50, 0)))), x1] [] (gwd S I J h) Q) := by
  rw [gb_208_0]
  refine n_puts_loop 28 0 _ _ rfl rfl (fun j hj => by omega) fun I1 hF1 g => K I1 (fun k i j hn => by rw [hF1 _ _ _ (by omega), u_ne (by omega)]) (by rw [hF1 _ _ _ (by omega), u_eq]; decide) (fun j hj => by rw [g j hj, u_k (by decide)])
theorem n_tries_loop : ∀ (n b : Nat) (I : Nat → Nat → Nat → Int32) (a1 : Int32), b + n = 28 → a1.toInt = b → (∀ j, j < b → I 61 0 j = I 62 0 j) →
    (∀ (I' : Nat → Nat → Nat → Int32), (∀ k i j, ¬ (k = 61 ∧ i = 0 ∧ j < 28) → I' k i j = I k i j) → (∀ j, j < 28 → I' 61 0 j = I 62 0 j) → Q none (gwd S I' J h)) → (gq d 209 2 [some (.inr (.inr (some (50, 0)))), some (.inl (a1))] [] (gwd S I J h) Q)
  | 0, b, I, a1, hn, h1, hl, K => by
    have e28 : (28 : Int32).toInt = 28 := rfl
    rw [gb_209_2, if_pos (by rw [z_le]; omega), gb_209_26]
    exact K I (fun _ _ _ _ => rfl) (fun j hj => hl j (by omega))
  | n + 1, b, I, a1, hn, h1, hl, K => by
    have e28 : (28 : Int32).toInt = 28 := rfl
    have e1 : (1 : Int32).toInt = 1 := rfl
    have n1 : a1.toNatClampNeg = b := by rw [z_n]; omega
    rw [gb_209_2, if_neg (by rw [z_le]; omega), gb_209_8]
    refine ⟨g_in.mpr (by omega), ?_⟩
    rw [gb_209_19]
    refine ⟨g_in.mpr (by omega), ?_⟩
    rw [n1, gb_209_20]
    refine n_tries_loop n (b + 1) _ _ (by omega) (by rw [z_add (by omega) (by omega), h1, e1]; rfl) (fun j hj => ?_) fun I' hF g => K I' (fun k i j hn => by rw [hF _ _ _ hn, u_ne (by omega)]) (fun j hj => by rw [g j hj, u_k (by decide)])
    rw [u_at, u_k (by decide)]
    split
    · rename_i e; rw [e]
    · exact hl j (by omega)
theorem n_triesAnew {x1 : Option gV} (K : ∀ (I' : Nat → Nat → Nat → Int32), (∀ k i j, ¬ (k = 61 ∧ i = 0 ∧ j < 28) → I' k i j = I k i j) → (∀ j, j < 28 → I' 61 0 j = I 62 0 j) → Q none (gwd S I' J h)) : (gq d 209 0 [some (.inr (.inr (some (50, 0)))), x1] [] (gwd S I J h) Q) := by
  rw [gb_209_0]
  exact n_tries_loop 28 0 I _ rfl rfl (fun j hj => by omega) K
theorem n_takesBack (K : ∀ (I' : Nat → Nat → Nat → Int32), (∀ k i j, ¬ (k = 61 ∧ i = 0 ∧ j < 28 ∨ k = 50 ∧ i = 0 ∧ j = 62) → I' k i j = I k i j) → I' 50 0 62 = 0 → (∀ j, j < 28 → I' 61 0 j = I 62 0 j) → Q none (gwd S I' J h)) : (gq (d + 1) 210 0 [some (.inr (.inr (some (50, 0))))] [] (gwd S I J h) Q) := by
  rw [gb_210_0]
  refine n_triesAnew fun I1 hF1 g => ?_
  rw [Option.toList_none, List.nil_append, gb_210_4]
  exact K _ (fun k i j hn => by rw [u_ne (by omega), hF1 _ _ _ (by omega)]) u_eq (fun j hj => by rw [u_k (by decide)]; exact g j hj)
theorem n_thr_loop {C : gCo} (hc : cOk C) : ∀ (n : Nat) (t : gSt) (k : Int) (I : Nat → Nat → Nat → Int32) (J : Nat → Nat → Nat → Int64) (a1 : Int32), (n : Int) = min (60 - k) (999 - t 0) → 0 ≤ k → k ≤ 60 → a1.toInt = k → mCo I C → tOk C t → t 0 ≤ 999 → mS I C t → I 50 0 62 ≠ 0 →
    (∀ I' (J' : Nat → Nat → Nat → Int64) x, FT I I' → FJ J J' → mS I' C (gHT C n t k).2 → x.toInt = (gHT C n t k).1 → Q (some (.inl x)) (gwd S I' J' h)) → (gq (d + 8) 221 2 [some (.inr (.inr (some (50, 0)))), some (.inl (a1))] [] (gwd S I J h) Q)
  | n, t, k, I, J, a1, hn, hk, hk6, h1, hC, hto, h9, hS, hth, K => by
    have e1 : (1 : Int32).toInt = 1 := rfl
    have e60 : (60 : Int32).toInt = 60 := rfl
    have e999 : (999 : Int32).toInt = 999 := rfl
    have r0 := hto.1
    have r2 := hto.2.2.1
    obtain ⟨s0, s1, s2, s3⟩ := hS.1
    have done : (gHT C n t k) = (if gThru C t then k else -1, t) → (gq (d + 8) 221 37 [some (.inr (.inr (some (50, 0)))), some (.inl (a1))] [] (gwd S I J h) Q) := fun he => by
      rw [he] at K
      rw [gb_221_37, n_isThrough hC hS (by omega), Option.toList_some, List.singleton_append, gb_221_41]
      by_cases hg : gThru C t = true
      · rw [if_neg (by rw [zb_pos hg]; decide), gb_221_44, gb_221_49]
        exact K I J a1 FT_refl FJ_refl hS (by show a1.toInt = if gThru C t then k else -1; rw [if_pos hg]; exact h1)
      · rw [if_pos (zb_neg hg), gb_221_48, gb_221_49]
        exact K I J _ FT_refl FJ_refl hS (by show _ = if gThru C t then k else -1; rw [if_neg hg]; rfl)
    rw [gb_221_2, n_isThrough hC hS (by omega), Option.toList_some, List.singleton_append, gb_221_6]
    by_cases hg : gThru C t = true
    · rw [if_neg (by rw [zb_pos hg]; decide)]
      refine done ?_
      match n with
      | 0 => rfl
      | n + 1 => rw [show gHT C (n + 1) t k = if gThru C t then (k, t) else gHT C n (gHour C t) (k + 1) from rfl, if_pos hg, if_pos hg]
    rw [if_pos (zb_neg hg), gb_221_9]
    match n, hn, K, done with
    | 0, hn, K, done =>
      by_cases w : k = 60
      · rw [if_pos (by rw [z_le]; omega)]; exact done rfl
      · rw [if_neg (by rw [z_le]; omega), gb_221_15]
        refine ⟨rfl, ?_⟩
        rw [show (0 : Int32).toNatClampNeg = 0 from rfl, gb_221_21, if_pos (by rw [z_le]; omega)]; exact done rfl
    | n + 1, hn, K, done =>
      rw [if_neg (by rw [z_le]; omega), gb_221_15]
      refine ⟨rfl, ?_⟩
      rw [show (0 : Int32).toNatClampNeg = 0 from rfl, gb_221_21, if_neg (by rw [z_le]; omega), gb_221_27]
      refine n_hourT hc hC hto (by omega) hS hth fun I1 J1 hF1 hFJ1 hS1 => ?_
      rw [gHourM_eq (by omega)] at hS1
      rw [Option.toList_none, List.nil_append, gb_221_31]
      rw [show gHT C (n + 1) t k = if gThru C t then (k, t) else gHT C n (gHour C t) (k + 1) from rfl, if_neg hg] at K
      exact n_thr_loop hc n (gHour C t) (k + 1) I1 J1 _ (by rw [gHour_0]; omega) (by omega) (by omega) (by rw [z_add (by omega) (by omega), h1, e1]) (mCo_congr hC fun k j hk => hF1 _ _ _ (by omega)) (tOk_hour hc hto) (by rw [gHour_0]; omega) hS1 (by rw [hF1 _ _ _ (by omega)]; exact hth) fun I2 J2 x hF2 hFJ2 hS2 hx => K I2 J2 x (FT_trans hF1 hF2) (FJ_trans hFJ1 hFJ2) hS2 hx
  termination_by n => n
theorem n_hoursThrough {x1 : Option gV} {C : gCo} {t : gSt} (hc : cOk C) (hC : mCo I C) (hto : tOk C t) (h9 : t 0 ≤ 999) (hS : mS I C t) (hth : I 50 0 62 ≠ 0)
    (K : ∀ I' (J' : Nat → Nat → Nat → Int64) x, FT I I' → FJ J J' → mS I' C (gThrough C t).2 → x.toInt = (gThrough C t).1 → Q (some (.inl x)) (gwd S I' J' h)) : (gq (d + 8) 221 0 [some (.inr (.inr (some (50, 0)))), x1] [] (gwd S I J h) Q) := by
  rw [gb_221_0]
  exact n_thr_loop hc (min 60 (999 - t 0)).toNat t 0 I J _ (by omega) (by omega) (by omega) rfl hC hto h9 hS hth K
theorem n_strong {x1 : Option gV} {C : gCo} {t : gSt} (hc : cOk C) (hC : mCo I C) (hto : tOk C t) (h9 : t 0 ≤ 999) (hS : mS I C t) (hth : I 50 0 62 ≠ 0)
    (K : ∀ I' (J' : Nat → Nat → Nat → Int64) x, FT I I' → FJ J J' → (∀ j, j < 28 → I' 61 0 j = I 62 0 j) → x.toInt = gStr C t → Q (some (.inl x)) (gwd S I' J' h)) : (gq (d + 9) 224 0 [some (.inr (.inr (some (50, 0)))), x1] [] (gwd S I J h) Q) := by
  rw [gb_224_0]
  refine n_hoursThrough hc hC hto h9 hS hth fun I1 J1 x hF1 hFJ1 hS1 hx => ?_
  rw [Option.toList_some, List.singleton_append, gb_224_4, gb_224_5]
  have fin : ∀ y : Int32, y.toInt = gStr C t → (gq (d + 9) 224 18 [some (.inr (.inr (some (50, 0)))), x1] [.inl (y)] (gwd S I1 J1 h) Q) := fun y hy => by
    rw [gb_224_18]
    refine n_triesAnew fun I2 hF2 g => ?_
    rw [Option.toList_none, List.nil_append, gb_224_23]
    exact K I2 J1 _ (fun k i j hn => by rw [hF2 _ _ _ (by omega), hF1 _ _ _ hn]) hFJ1 (fun j hj => by rw [g j hj, hF1 _ _ _ (by omega)]) hy
  by_cases hz : (gThrough C t).1 = -1
  · rw [if_pos ((gThr_str hx).mpr hz), gb_224_8]
    exact fin 0 (by rw [gStr_no hz]; rfl)
  · rw [if_neg (fun e => hz ((gThr_str hx).mp e)), gb_224_12]
    refine ⟨rfl, ?_⟩
    exact fin _ (by rw [gStr_of hz]; exact hS1.1.2.2.1)
theorem n_isAhead {C : gCo} {t : gSt} {a1 a2 a3 : Int32} (hC : mCo I C) (hS : mS I C t) (r0 : 0 ≤ t 0 ∧ t 0 ≤ 2000) (h2 : 0 ≤ a2.toInt) (h3 : a3.toInt ≤ 100) : (gq (d + 1) 211 0 [some (.inr (.inr (some (50, 0)))), some (.inl (a1)), some (.inl (a2)), some (.inl (a3))] [] (gwd S I J h) Q) ↔ Q (some (.inl (zb (a2.toInt ≤ a1.toInt ∧ a1.toInt ≤ a3.toInt ∧ t 0 + a1.toInt ≤ 999)))) (gwd S I J h) := by
  have e999 : (999 : Int32).toInt = 999 := rfl
  obtain ⟨s0, s1, s2, s3⟩ := hS.1
  rw [gb_211_0, if_neg hC.2.2.2.2, gb_211_7, n_isIn, Option.toList_some, List.singleton_append, gb_211_16, z_64, z_64, z_64]
  by_cases w : a2.toInt ≤ a1.toInt ∧ a1.toInt ≤ a3.toInt
  · have q : (I 61 0 0 + a1).toInt = t 0 + a1.toInt := by rw [z_add (by omega) (by omega), s0]
    rw [if_neg (by rw [zb_pos w]; decide), gb_211_19, show (0 : Int32).toNatClampNeg = 0 from rfl, gb_211_25]
    by_cases w2 : t 0 + a1.toInt ≤ 999
    · rw [if_neg (by rw [z_lt]; omega), gb_211_33, gb_211_38, g_t1, true_and, zb_pos ⟨w.1, w.2, w2⟩]; exact ⟨fun h => h.2, fun h => ⟨rfl, h⟩⟩
    · rw [if_pos (by rw [z_lt]; omega), gb_211_37, gb_211_38, g_t0, true_and, zb_neg (fun e => w2 e.2.2)]; exact ⟨fun h => h.2, fun h => ⟨rfl, h⟩⟩
  · rw [if_pos (zb_neg w), gb_211_37, gb_211_38, g_t0, true_and, zb_neg (fun e => w ⟨e.1, e.2.1⟩)]
